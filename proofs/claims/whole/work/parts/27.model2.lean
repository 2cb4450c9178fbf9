theorem dX10_basket_0 : decode cX10_basket 0 = .ok (.aload_n 0, 1) := by decide +kernel
theorem dX10_basket_1 : decode cX10_basket 1 = .ok (.invokevirtual 199, 3) := by decide +kernel
theorem dX10_basket_4 : decode cX10_basket 4 = .ok (.istore_n 1, 1) := by decide +kernel
theorem dX10_basket_5 : decode cX10_basket 5 = .ok (.aload_n 0, 1) := by decide +kernel
theorem dX10_basket_6 : decode cX10_basket 6 = .ok (.iload_n 1, 1) := by decide +kernel
theorem dX10_basket_7 : decode cX10_basket 7 = .ok (.bipush (-6), 2) := by decide +kernel
theorem dX10_basket_9 : decode cX10_basket 9 = .ok (.if_icmp .eq 7, 3) := by decide +kernel
theorem dX10_basket_12 : decode cX10_basket 12 = .ok (.iload_n 1, 1) := by decide +kernel
theorem dX10_basket_13 : decode cX10_basket 13 = .ok (.goto 7, 3) := by decide +kernel
theorem dX10_basket_16 : decode cX10_basket 16 = .ok (.aload_n 0, 1) := by decide +kernel
theorem dX10_basket_17 : decode cX10_basket 17 = .ok (.getfield 117, 3) := by decide +kernel
theorem dX10_basket_20 : decode cX10_basket 20 = .ok (.invokevirtual 202, 3) := by decide +kernel
theorem dX10_basket_23 : decode cX10_basket 23 = .ok (.ireturn, 1) := by decide +kernel
theorem dX10_passed_0 : decode cX10_passed 0 = .ok (.iload_n 1, 1) := by decide +kernel
theorem dX10_passed_1 : decode cX10_passed 1 = .ok (.i2l, 1) := by decide +kernel
theorem dX10_passed_2 : decode cX10_passed 2 = .ok (.lconst 0, 1) := by decide +kernel
theorem dX10_passed_3 : decode cX10_passed 3 = .ok (.lconst 1, 1) := by decide +kernel
theorem dX10_passed_4 : decode cX10_passed 4 = .ok (.invokestatic 94, 3) := by decide +kernel
theorem dX10_passed_7 : decode cX10_passed 7 = .ok (.ifCond .ne 6, 3) := by decide +kernel
theorem dX10_passed_10 : decode cX10_passed 10 = .ok (.bipush (-2), 2) := by decide +kernel
theorem dX10_passed_12 : decode cX10_passed 12 = .ok (.ireturn, 1) := by decide +kernel
theorem dX10_passed_13 : decode cX10_passed 13 = .ok (.aload_n 0, 1) := by decide +kernel
theorem dX10_passed_14 : decode cX10_passed 14 = .ok (.aload_n 0, 1) := by decide +kernel
theorem dX10_passed_15 : decode cX10_passed 15 = .ok (.invokevirtual 199, 3) := by decide +kernel
theorem dX10_passed_18 : decode cX10_passed 18 = .ok (.invokevirtual 202, 3) := by decide +kernel
theorem dX10_passed_21 : decode cX10_passed 21 = .ok (.istore_n 2, 1) := by decide +kernel
theorem dX10_passed_22 : decode cX10_passed 22 = .ok (.iload_n 2, 1) := by decide +kernel
theorem dX10_passed_23 : decode cX10_passed 23 = .ok (.bipush (-6), 2) := by decide +kernel
theorem dX10_passed_25 : decode cX10_passed 25 = .ok (.if_icmp .eq 7, 3) := by decide +kernel
theorem dX10_passed_28 : decode cX10_passed 28 = .ok (.iload_n 2, 1) := by decide +kernel
theorem dX10_passed_29 : decode cX10_passed 29 = .ok (.goto 18, 3) := by decide +kernel
theorem dX10_passed_32 : decode cX10_passed 32 = .ok (.iload_n 1, 1) := by decide +kernel
theorem dX10_passed_33 : decode cX10_passed 33 = .ok (.ifCond .ne 10, 3) := by decide +kernel
theorem dX10_passed_36 : decode cX10_passed 36 = .ok (.aload_n 0, 1) := by decide +kernel
theorem dX10_passed_37 : decode cX10_passed 37 = .ok (.getfield 155, 3) := by decide +kernel
theorem dX10_passed_40 : decode cX10_passed 40 = .ok (.goto 7, 3) := by decide +kernel
theorem dX10_passed_43 : decode cX10_passed 43 = .ok (.aload_n 0, 1) := by decide +kernel
theorem dX10_passed_44 : decode cX10_passed 44 = .ok (.getfield 161, 3) := by decide +kernel
theorem dX10_passed_47 : decode cX10_passed 47 = .ok (.ireturn, 1) := by decide +kernel
theorem dX10_oldest_0 : decode cX10_oldest 0 = .ok (.aload_n 0, 1) := by decide +kernel
theorem dX10_oldest_1 : decode cX10_oldest 1 = .ok (.aload_n 0, 1) := by decide +kernel
theorem dX10_oldest_2 : decode cX10_oldest 2 = .ok (.invokevirtual 199, 3) := by decide +kernel
theorem dX10_oldest_5 : decode cX10_oldest 5 = .ok (.invokevirtual 202, 3) := by decide +kernel
theorem dX10_oldest_8 : decode cX10_oldest 8 = .ok (.istore_n 2, 1) := by decide +kernel
theorem dX10_oldest_9 : decode cX10_oldest 9 = .ok (.iload_n 2, 1) := by decide +kernel
theorem dX10_oldest_10 : decode cX10_oldest 10 = .ok (.bipush (-6), 2) := by decide +kernel
theorem dX10_oldest_12 : decode cX10_oldest 12 = .ok (.if_icmp .eq 7, 3) := by decide +kernel
theorem dX10_oldest_15 : decode cX10_oldest 15 = .ok (.iload_n 2, 1) := by decide +kernel
theorem dX10_oldest_16 : decode cX10_oldest 16 = .ok (.goto 29, 3) := by decide +kernel
theorem dX10_oldest_19 : decode cX10_oldest 19 = .ok (.iload_n 1, 1) := by decide +kernel
theorem dX10_oldest_20 : decode cX10_oldest 20 = .ok (.i2l, 1) := by decide +kernel
theorem dX10_oldest_21 : decode cX10_oldest 21 = .ok (.lconst 0, 1) := by decide +kernel
theorem dX10_oldest_22 : decode cX10_oldest 22 = .ok (.aload_n 0, 1) := by decide +kernel
theorem dX10_oldest_23 : decode cX10_oldest 23 = .ok (.getfield 158, 3) := by decide +kernel
theorem dX10_oldest_26 : decode cX10_oldest 26 = .ok (.i2l, 1) := by decide +kernel
theorem dX10_oldest_27 : decode cX10_oldest 27 = .ok (.lconst 1, 1) := by decide +kernel
theorem dX10_oldest_28 : decode cX10_oldest 28 = .ok (.lsub, 1) := by decide +kernel
theorem dX10_oldest_29 : decode cX10_oldest 29 = .ok (.invokestatic 94, 3) := by decide +kernel
theorem dX10_oldest_32 : decode cX10_oldest 32 = .ok (.ifCond .eq 12, 3) := by decide +kernel
theorem dX10_oldest_35 : decode cX10_oldest 35 = .ok (.aload_n 0, 1) := by decide +kernel
theorem dX10_oldest_36 : decode cX10_oldest 36 = .ok (.getfield 40, 3) := by decide +kernel
theorem dX10_oldest_39 : decode cX10_oldest 39 = .ok (.iload_n 1, 1) := by decide +kernel
theorem dX10_oldest_40 : decode cX10_oldest 40 = .ok (.iaload, 1) := by decide +kernel
theorem dX10_oldest_41 : decode cX10_oldest 41 = .ok (.goto 4, 3) := by decide +kernel
theorem dX10_oldest_44 : decode cX10_oldest 44 = .ok (.iconst (-1), 1) := by decide +kernel
theorem dX10_oldest_45 : decode cX10_oldest 45 = .ok (.ireturn, 1) := by decide +kernel
theorem dX10_done_0 : decode cX10_done 0 = .ok (.aload_n 0, 1) := by decide +kernel
theorem dX10_done_1 : decode cX10_done 1 = .ok (.invokevirtual 199, 3) := by decide +kernel
theorem dX10_done_4 : decode cX10_done 4 = .ok (.istore_n 1, 1) := by decide +kernel
theorem dX10_done_5 : decode cX10_done 5 = .ok (.iload_n 1, 1) := by decide +kernel
theorem dX10_done_6 : decode cX10_done 6 = .ok (.bipush (-6), 2) := by decide +kernel
theorem dX10_done_8 : decode cX10_done 8 = .ok (.if_icmp .eq 9, 3) := by decide +kernel
theorem dX10_done_11 : decode cX10_done 11 = .ok (.aload_n 0, 1) := by decide +kernel
theorem dX10_done_12 : decode cX10_done 12 = .ok (.iload_n 1, 1) := by decide +kernel
theorem dX10_done_13 : decode cX10_done 13 = .ok (.invokevirtual 202, 3) := by decide +kernel
theorem dX10_done_16 : decode cX10_done 16 = .ok (.ireturn, 1) := by decide +kernel
theorem dX10_done_17 : decode cX10_done 17 = .ok (.aload_n 0, 1) := by decide +kernel
theorem dX10_done_18 : decode cX10_done 18 = .ok (.iconst 0, 1) := by decide +kernel
theorem dX10_done_19 : decode cX10_done 19 = .ok (.putfield 124, 3) := by decide +kernel
theorem dX10_done_22 : decode cX10_done 22 = .ok (.aload_n 0, 1) := by decide +kernel
theorem dX10_done_23 : decode cX10_done 23 = .ok (.getfield 131, 3) := by decide +kernel
theorem dX10_done_26 : decode cX10_done 26 = .ok (.ireturn, 1) := by decide +kernel
theorem dX10_lasts_0 : decode cX10_lasts 0 = .ok (.aload_n 0, 1) := by decide +kernel
theorem dX10_lasts_1 : decode cX10_lasts 1 = .ok (.iload_n 1, 1) := by decide +kernel
theorem dX10_lasts_2 : decode cX10_lasts 2 = .ok (.invokevirtual 109, 3) := by decide +kernel
theorem dX10_lasts_5 : decode cX10_lasts 5 = .ok (.ifCond .ne 5, 3) := by decide +kernel
theorem dX10_lasts_8 : decode cX10_lasts 8 = .ok (.iconst (-1), 1) := by decide +kernel
theorem dX10_lasts_9 : decode cX10_lasts 9 = .ok (.ireturn, 1) := by decide +kernel
theorem dX10_lasts_10 : decode cX10_lasts 10 = .ok (.iload_n 2, 1) := by decide +kernel
theorem dX10_lasts_11 : decode cX10_lasts 11 = .ok (.i2l, 1) := by decide +kernel
theorem dX10_lasts_12 : decode cX10_lasts 12 = .ok (.lconst 0, 1) := by decide +kernel
theorem dX10_lasts_13 : decode cX10_lasts 13 = .ok (.ldc2_w 101, 3) := by decide +kernel
theorem dX10_lasts_16 : decode cX10_lasts 16 = .ok (.invokestatic 94, 3) := by decide +kernel
theorem dX10_lasts_19 : decode cX10_lasts 19 = .ok (.ifCond .ne 6, 3) := by decide +kernel
theorem dX10_lasts_22 : decode cX10_lasts 22 = .ok (.bipush (-2), 2) := by decide +kernel
theorem dX10_lasts_24 : decode cX10_lasts 24 = .ok (.ireturn, 1) := by decide +kernel
theorem dX10_lasts_25 : decode cX10_lasts 25 = .ok (.iload_n 2, 1) := by decide +kernel
theorem dX10_lasts_26 : decode cX10_lasts 26 = .ok (.bipush 99, 2) := by decide +kernel
theorem dX10_lasts_28 : decode cX10_lasts 28 = .ok (.if_icmp .ne 8, 3) := by decide +kernel
theorem dX10_lasts_31 : decode cX10_lasts 31 = .ok (.bipush 100, 2) := by decide +kernel
theorem dX10_lasts_33 : decode cX10_lasts 33 = .ok (.goto 33, 3) := by decide +kernel
theorem dX10_lasts_36 : decode cX10_lasts 36 = .ok (.aload_n 0, 1) := by decide +kernel
theorem dX10_lasts_37 : decode cX10_lasts 37 = .ok (.getfield 7, 3) := by decide +kernel
theorem dX10_lasts_40 : decode cX10_lasts 40 = .ok (.iload_n 1, 1) := by decide +kernel
theorem dX10_lasts_41 : decode cX10_lasts 41 = .ok (.iaload, 1) := by decide +kernel
theorem dX10_lasts_42 : decode cX10_lasts 42 = .ok (.iload_n 2, 1) := by decide +kernel
theorem dX10_lasts_43 : decode cX10_lasts 43 = .ok (.if_icmp .le 8, 3) := by decide +kernel
theorem dX10_lasts_46 : decode cX10_lasts 46 = .ok (.bipush (-6), 2) := by decide +kernel
theorem dX10_lasts_48 : decode cX10_lasts 48 = .ok (.goto 18, 3) := by decide +kernel
theorem dX10_lasts_51 : decode cX10_lasts 51 = .ok (.iload_n 2, 1) := by decide +kernel
theorem dX10_lasts_52 : decode cX10_lasts 52 = .ok (.aload_n 0, 1) := by decide +kernel
theorem dX10_lasts_53 : decode cX10_lasts 53 = .ok (.getfield 7, 3) := by decide +kernel
theorem dX10_lasts_56 : decode cX10_lasts 56 = .ok (.iload_n 1, 1) := by decide +kernel
theorem dX10_lasts_57 : decode cX10_lasts 57 = .ok (.iaload, 1) := by decide +kernel
theorem dX10_lasts_58 : decode cX10_lasts 58 = .ok (.isub, 1) := by decide +kernel
theorem dX10_lasts_59 : decode cX10_lasts 59 = .ok (.aload_n 0, 1) := by decide +kernel
theorem dX10_lasts_60 : decode cX10_lasts 60 = .ok (.getfield 13, 3) := by decide +kernel
theorem dX10_lasts_63 : decode cX10_lasts 63 = .ok (.iload_n 1, 1) := by decide +kernel
theorem dX10_lasts_64 : decode cX10_lasts 64 = .ok (.iaload, 1) := by decide +kernel
theorem dX10_lasts_65 : decode cX10_lasts 65 = .ok (.idiv, 1) := by decide +kernel
theorem dX10_lasts_66 : decode cX10_lasts 66 = .ok (.ireturn, 1) := by decide +kernel
theorem dX10_ageAt_0 : decode cX10_ageAt 0 = .ok (.iconst 0, 1) := by decide +kernel
theorem dX10_ageAt_1 : decode cX10_ageAt 1 = .ok (.istore_n 3, 1) := by decide +kernel
theorem dX10_ageAt_2 : decode cX10_ageAt 2 = .ok (.iload_n 3, 1) := by decide +kernel
theorem dX10_ageAt_3 : decode cX10_ageAt 3 = .ok (.aload_n 0, 1) := by decide +kernel
theorem dX10_ageAt_4 : decode cX10_ageAt 4 = .ok (.getfield 55, 3) := by decide +kernel
theorem dX10_ageAt_7 : decode cX10_ageAt 7 = .ok (.iload_n 1, 1) := by decide +kernel
theorem dX10_ageAt_8 : decode cX10_ageAt 8 = .ok (.iaload, 1) := by decide +kernel
theorem dX10_ageAt_9 : decode cX10_ageAt 9 = .ok (.if_icmp .ge 26, 3) := by decide +kernel
theorem dX10_ageAt_12 : decode cX10_ageAt 12 = .ok (.aload_n 0, 1) := by decide +kernel
theorem dX10_ageAt_13 : decode cX10_ageAt 13 = .ok (.getfield 52, 3) := by decide +kernel
theorem dX10_ageAt_16 : decode cX10_ageAt 16 = .ok (.bipush 26, 2) := by decide +kernel
theorem dX10_ageAt_18 : decode cX10_ageAt 18 = .ok (.iload_n 1, 1) := by decide +kernel
theorem dX10_ageAt_19 : decode cX10_ageAt 19 = .ok (.imul, 1) := by decide +kernel
theorem dX10_ageAt_20 : decode cX10_ageAt 20 = .ok (.iload_n 3, 1) := by decide +kernel
theorem dX10_ageAt_21 : decode cX10_ageAt 21 = .ok (.iadd, 1) := by decide +kernel
theorem dX10_ageAt_22 : decode cX10_ageAt 22 = .ok (.iaload, 1) := by decide +kernel
theorem dX10_ageAt_23 : decode cX10_ageAt 23 = .ok (.iload_n 2, 1) := by decide +kernel
theorem dX10_ageAt_24 : decode cX10_ageAt 24 = .ok (.if_icmp .ne 5, 3) := by decide +kernel
theorem dX10_ageAt_27 : decode cX10_ageAt 27 = .ok (.iload_n 3, 1) := by decide +kernel
theorem dX10_ageAt_28 : decode cX10_ageAt 28 = .ok (.ireturn, 1) := by decide +kernel
theorem dX10_ageAt_29 : decode cX10_ageAt 29 = .ok (.iinc 3 1, 3) := by decide +kernel
theorem dX10_ageAt_32 : decode cX10_ageAt 32 = .ok (.goto (-30), 3) := by decide +kernel
theorem dX10_ageAt_35 : decode cX10_ageAt 35 = .ok (.aload_n 0, 1) := by decide +kernel
theorem dX10_ageAt_36 : decode cX10_ageAt 36 = .ok (.getfield 52, 3) := by decide +kernel
theorem dX10_ageAt_39 : decode cX10_ageAt 39 = .ok (.bipush 26, 2) := by decide +kernel
theorem dX10_ageAt_41 : decode cX10_ageAt 41 = .ok (.iload_n 1, 1) := by decide +kernel
theorem dX10_ageAt_42 : decode cX10_ageAt 42 = .ok (.imul, 1) := by decide +kernel
theorem dX10_ageAt_43 : decode cX10_ageAt 43 = .ok (.aload_n 0, 1) := by decide +kernel
theorem dX10_ageAt_44 : decode cX10_ageAt 44 = .ok (.getfield 55, 3) := by decide +kernel
theorem dX10_ageAt_47 : decode cX10_ageAt 47 = .ok (.iload_n 1, 1) := by decide +kernel
theorem dX10_ageAt_48 : decode cX10_ageAt 48 = .ok (.iaload, 1) := by decide +kernel
theorem dX10_ageAt_49 : decode cX10_ageAt 49 = .ok (.iadd, 1) := by decide +kernel
theorem dX10_ageAt_50 : decode cX10_ageAt 50 = .ok (.iload_n 2, 1) := by decide +kernel
theorem dX10_ageAt_51 : decode cX10_ageAt 51 = .ok (.iastore, 1) := by decide +kernel
theorem dX10_ageAt_52 : decode cX10_ageAt 52 = .ok (.aload_n 0, 1) := by decide +kernel
theorem dX10_ageAt_53 : decode cX10_ageAt 53 = .ok (.getfield 55, 3) := by decide +kernel
theorem dX10_ageAt_56 : decode cX10_ageAt 56 = .ok (.iload_n 1, 1) := by decide +kernel
theorem dX10_ageAt_57 : decode cX10_ageAt 57 = .ok (.dup2, 1) := by decide +kernel
theorem dX10_ageAt_58 : decode cX10_ageAt 58 = .ok (.iaload, 1) := by decide +kernel
theorem dX10_ageAt_59 : decode cX10_ageAt 59 = .ok (.iconst 1, 1) := by decide +kernel
theorem dX10_ageAt_60 : decode cX10_ageAt 60 = .ok (.iadd, 1) := by decide +kernel
theorem dX10_ageAt_61 : decode cX10_ageAt 61 = .ok (.iastore, 1) := by decide +kernel
theorem dX10_ageAt_62 : decode cX10_ageAt 62 = .ok (.aload_n 0, 1) := by decide +kernel
theorem dX10_ageAt_63 : decode cX10_ageAt 63 = .ok (.getfield 55, 3) := by decide +kernel
theorem dX10_ageAt_66 : decode cX10_ageAt 66 = .ok (.iload_n 1, 1) := by decide +kernel
theorem dX10_ageAt_67 : decode cX10_ageAt 67 = .ok (.iaload, 1) := by decide +kernel
theorem dX10_ageAt_68 : decode cX10_ageAt 68 = .ok (.iconst 1, 1) := by decide +kernel
theorem dX10_ageAt_69 : decode cX10_ageAt 69 = .ok (.isub, 1) := by decide +kernel
theorem dX10_ageAt_70 : decode cX10_ageAt 70 = .ok (.ireturn, 1) := by decide +kernel
theorem dX10_layAges_0 : decode cX10_layAges 0 = .ok (.aload_n 0, 1) := by decide +kernel
theorem dX10_layAges_1 : decode cX10_layAges 1 = .ok (.getfield 49, 3) := by decide +kernel
theorem dX10_layAges_4 : decode cX10_layAges 4 = .ok (.iload_n 1, 1) := by decide +kernel
theorem dX10_layAges_5 : decode cX10_layAges 5 = .ok (.iaload, 1) := by decide +kernel
theorem dX10_layAges_6 : decode cX10_layAges 6 = .ok (.istore 4, 2) := by decide +kernel
theorem dX10_layAges_8 : decode cX10_layAges 8 = .ok (.aload_n 0, 1) := by decide +kernel
theorem dX10_layAges_9 : decode cX10_layAges 9 = .ok (.getfield 55, 3) := by decide +kernel
theorem dX10_layAges_12 : decode cX10_layAges 12 = .ok (.iload_n 1, 1) := by decide +kernel
theorem dX10_layAges_13 : decode cX10_layAges 13 = .ok (.iconst 1, 1) := by decide +kernel
theorem dX10_layAges_14 : decode cX10_layAges 14 = .ok (.iastore, 1) := by decide +kernel
theorem dX10_layAges_15 : decode cX10_layAges 15 = .ok (.aload_n 0, 1) := by decide +kernel
theorem dX10_layAges_16 : decode cX10_layAges 16 = .ok (.getfield 52, 3) := by decide +kernel
theorem dX10_layAges_19 : decode cX10_layAges 19 = .ok (.bipush 26, 2) := by decide +kernel
theorem dX10_layAges_21 : decode cX10_layAges 21 = .ok (.iload_n 1, 1) := by decide +kernel
theorem dX10_layAges_22 : decode cX10_layAges 22 = .ok (.imul, 1) := by decide +kernel
theorem dX10_layAges_23 : decode cX10_layAges 23 = .ok (.iload 4, 2) := by decide +kernel
theorem dX10_layAges_25 : decode cX10_layAges 25 = .ok (.ifCond .ge 7, 3) := by decide +kernel
theorem dX10_layAges_28 : decode cX10_layAges 28 = .ok (.iconst 0, 1) := by decide +kernel
theorem dX10_layAges_29 : decode cX10_layAges 29 = .ok (.goto 10, 3) := by decide +kernel
theorem dX10_layAges_32 : decode cX10_layAges 32 = .ok (.aload_n 0, 1) := by decide +kernel
theorem dX10_layAges_33 : decode cX10_layAges 33 = .ok (.getfield 7, 3) := by decide +kernel
theorem dX10_layAges_36 : decode cX10_layAges 36 = .ok (.iload 4, 2) := by decide +kernel
theorem dX10_layAges_38 : decode cX10_layAges 38 = .ok (.iaload, 1) := by decide +kernel
theorem dX10_layAges_39 : decode cX10_layAges 39 = .ok (.iastore, 1) := by decide +kernel
theorem dX10_layAges_40 : decode cX10_layAges 40 = .ok (.iconst 0, 1) := by decide +kernel
theorem dX10_layAges_41 : decode cX10_layAges 41 = .ok (.istore 5, 2) := by decide +kernel
theorem dX10_layAges_43 : decode cX10_layAges 43 = .ok (.iload 5, 2) := by decide +kernel
theorem dX10_layAges_45 : decode cX10_layAges 45 = .ok (.iload_n 2, 1) := by decide +kernel
theorem dX10_layAges_46 : decode cX10_layAges 46 = .ok (.if_icmp .ge 57, 3) := by decide +kernel
theorem dX10_layAges_49 : decode cX10_layAges 49 = .ok (.aload_n 0, 1) := by decide +kernel
theorem dX10_layAges_50 : decode cX10_layAges 50 = .ok (.getfield 55, 3) := by decide +kernel
theorem dX10_layAges_53 : decode cX10_layAges 53 = .ok (.iload_n 1, 1) := by decide +kernel
theorem dX10_layAges_54 : decode cX10_layAges 54 = .ok (.iaload, 1) := by decide +kernel
theorem dX10_layAges_55 : decode cX10_layAges 55 = .ok (.istore 6, 2) := by decide +kernel
theorem dX10_layAges_57 : decode cX10_layAges 57 = .ok (.iconst 0, 1) := by decide +kernel
theorem dX10_layAges_58 : decode cX10_layAges 58 = .ok (.istore 7, 2) := by decide +kernel
theorem dX10_layAges_60 : decode cX10_layAges 60 = .ok (.iload 7, 2) := by decide +kernel
theorem dX10_layAges_62 : decode cX10_layAges 62 = .ok (.iconst 3, 1) := by decide +kernel
theorem dX10_layAges_63 : decode cX10_layAges 63 = .ok (.iload 6, 2) := by decide +kernel
theorem dX10_layAges_65 : decode cX10_layAges 65 = .ok (.imul, 1) := by decide +kernel
theorem dX10_layAges_66 : decode cX10_layAges 66 = .ok (.if_icmp .ge 23, 3) := by decide +kernel
theorem dX10_layAges_69 : decode cX10_layAges 69 = .ok (.aload_n 0, 1) := by decide +kernel
theorem dX10_layAges_70 : decode cX10_layAges 70 = .ok (.iload_n 1, 1) := by decide +kernel
theorem dX10_layAges_71 : decode cX10_layAges 71 = .ok (.iload 7, 2) := by decide +kernel
theorem dX10_layAges_73 : decode cX10_layAges 73 = .ok (.iconst 3, 1) := by decide +kernel
theorem dX10_layAges_74 : decode cX10_layAges 74 = .ok (.idiv, 1) := by decide +kernel
theorem dX10_layAges_75 : decode cX10_layAges 75 = .ok (.iload 7, 2) := by decide +kernel
theorem dX10_layAges_77 : decode cX10_layAges 77 = .ok (.iconst 3, 1) := by decide +kernel
theorem dX10_layAges_78 : decode cX10_layAges 78 = .ok (.irem, 1) := by decide +kernel
theorem dX10_layAges_79 : decode cX10_layAges 79 = .ok (.iload_n 3, 1) := by decide +kernel
theorem dX10_layAges_80 : decode cX10_layAges 80 = .ok (.invokevirtual 205, 3) := by decide +kernel
theorem dX10_layAges_83 : decode cX10_layAges 83 = .ok (.iinc 7 1, 3) := by decide +kernel
theorem dX10_layAges_86 : decode cX10_layAges 86 = .ok (.goto (-26), 3) := by decide +kernel
theorem dX10_layAges_89 : decode cX10_layAges 89 = .ok (.aload_n 0, 1) := by decide +kernel
theorem dX10_layAges_90 : decode cX10_layAges 90 = .ok (.getfield 65, 3) := by decide +kernel
theorem dX10_layAges_93 : decode cX10_layAges 93 = .ok (.iload_n 1, 1) := by decide +kernel
theorem dX10_layAges_94 : decode cX10_layAges 94 = .ok (.iload 6, 2) := by decide +kernel
theorem dX10_layAges_96 : decode cX10_layAges 96 = .ok (.iastore, 1) := by decide +kernel
theorem dX10_layAges_97 : decode cX10_layAges 97 = .ok (.iinc 5 1, 3) := by decide +kernel
theorem dX10_layAges_100 : decode cX10_layAges 100 = .ok (.goto (-57), 3) := by decide +kernel
theorem dX10_layAges_103 : decode cX10_layAges 103 = .ok (.return_, 1) := by decide +kernel
theorem dX10_layAgeThen_0 : decode cX10_layAgeThen 0 = .ok (.aload_n 0, 1) := by decide +kernel
theorem dX10_layAgeThen_1 : decode cX10_layAgeThen 1 = .ok (.getfield 49, 3) := by decide +kernel
theorem dX10_layAgeThen_4 : decode cX10_layAgeThen 4 = .ok (.iload_n 1, 1) := by decide +kernel
theorem dX10_layAgeThen_5 : decode cX10_layAgeThen 5 = .ok (.iaload, 1) := by decide +kernel
theorem dX10_layAgeThen_6 : decode cX10_layAgeThen 6 = .ok (.istore 5, 2) := by decide +kernel
theorem dX10_layAgeThen_8 : decode cX10_layAgeThen 8 = .ok (.iload 5, 2) := by decide +kernel
theorem dX10_layAgeThen_10 : decode cX10_layAgeThen 10 = .ok (.ifCond .ge 7, 3) := by decide +kernel
theorem dX10_layAgeThen_13 : decode cX10_layAgeThen 13 = .ok (.iconst 0, 1) := by decide +kernel
theorem dX10_layAgeThen_14 : decode cX10_layAgeThen 14 = .ok (.goto 21, 3) := by decide +kernel
theorem dX10_layAgeThen_17 : decode cX10_layAgeThen 17 = .ok (.aload_n 0, 1) := by decide +kernel
theorem dX10_layAgeThen_18 : decode cX10_layAgeThen 18 = .ok (.iload 5, 2) := by decide +kernel
theorem dX10_layAgeThen_20 : decode cX10_layAgeThen 20 = .ok (.aload_n 0, 1) := by decide +kernel
theorem dX10_layAgeThen_21 : decode cX10_layAgeThen 21 = .ok (.getfield 52, 3) := by decide +kernel
theorem dX10_layAgeThen_24 : decode cX10_layAgeThen 24 = .ok (.bipush 26, 2) := by decide +kernel
theorem dX10_layAgeThen_26 : decode cX10_layAgeThen 26 = .ok (.iload_n 1, 1) := by decide +kernel
theorem dX10_layAgeThen_27 : decode cX10_layAgeThen 27 = .ok (.imul, 1) := by decide +kernel
theorem dX10_layAgeThen_28 : decode cX10_layAgeThen 28 = .ok (.iload_n 2, 1) := by decide +kernel
theorem dX10_layAgeThen_29 : decode cX10_layAgeThen 29 = .ok (.iadd, 1) := by decide +kernel
theorem dX10_layAgeThen_30 : decode cX10_layAgeThen 30 = .ok (.iaload, 1) := by decide +kernel
theorem dX10_layAgeThen_31 : decode cX10_layAgeThen 31 = .ok (.iload_n 3, 1) := by decide +kernel
theorem dX10_layAgeThen_32 : decode cX10_layAgeThen 32 = .ok (.invokevirtual 147, 3) := by decide +kernel
theorem dX10_layAgeThen_35 : decode cX10_layAgeThen 35 = .ok (.istore 6, 2) := by decide +kernel
theorem dX10_layAgeThen_37 : decode cX10_layAgeThen 37 = .ok (.iload 5, 2) := by decide +kernel
theorem dX10_layAgeThen_39 : decode cX10_layAgeThen 39 = .ok (.ifCond .ge 15, 3) := by decide +kernel
theorem dX10_layAgeThen_42 : decode cX10_layAgeThen 42 = .ok (.iload_n 3, 1) := by decide +kernel
theorem dX10_layAgeThen_43 : decode cX10_layAgeThen 43 = .ok (.ifCond .ne 7, 3) := by decide +kernel
theorem dX10_layAgeThen_46 : decode cX10_layAgeThen 46 = .ok (.iconst 1, 1) := by decide +kernel
theorem dX10_layAgeThen_47 : decode cX10_layAgeThen 47 = .ok (.goto 19, 3) := by decide +kernel
theorem dX10_layAgeThen_50 : decode cX10_layAgeThen 50 = .ok (.iconst 0, 1) := by decide +kernel
theorem dX10_layAgeThen_51 : decode cX10_layAgeThen 51 = .ok (.goto 15, 3) := by decide +kernel
theorem dX10_layAgeThen_54 : decode cX10_layAgeThen 54 = .ok (.iload 6, 2) := by decide +kernel
theorem dX10_layAgeThen_56 : decode cX10_layAgeThen 56 = .ok (.iload 4, 2) := by decide +kernel
theorem dX10_layAgeThen_58 : decode cX10_layAgeThen 58 = .ok (.if_icmp .gt 7, 3) := by decide +kernel
theorem dX10_layAgeThen_61 : decode cX10_layAgeThen 61 = .ok (.iconst 1, 1) := by decide +kernel
theorem dX10_layAgeThen_62 : decode cX10_layAgeThen 62 = .ok (.goto 4, 3) := by decide +kernel
theorem dX10_layAgeThen_65 : decode cX10_layAgeThen 65 = .ok (.iconst 0, 1) := by decide +kernel
theorem dX10_layAgeThen_66 : decode cX10_layAgeThen 66 = .ok (.istore 7, 2) := by decide +kernel
theorem dX10_layAgeThen_68 : decode cX10_layAgeThen 68 = .ok (.aload_n 0, 1) := by decide +kernel
theorem dX10_layAgeThen_69 : decode cX10_layAgeThen 69 = .ok (.getfield 58, 3) := by decide +kernel
theorem dX10_layAgeThen_72 : decode cX10_layAgeThen 72 = .ok (.bipush 78, 2) := by decide +kernel
theorem dX10_layAgeThen_74 : decode cX10_layAgeThen 74 = .ok (.iload_n 1, 1) := by decide +kernel
theorem dX10_layAgeThen_75 : decode cX10_layAgeThen 75 = .ok (.imul, 1) := by decide +kernel
theorem dX10_layAgeThen_76 : decode cX10_layAgeThen 76 = .ok (.iconst 3, 1) := by decide +kernel
theorem dX10_layAgeThen_77 : decode cX10_layAgeThen 77 = .ok (.iload_n 2, 1) := by decide +kernel
theorem dX10_layAgeThen_78 : decode cX10_layAgeThen 78 = .ok (.imul, 1) := by decide +kernel
theorem dX10_layAgeThen_79 : decode cX10_layAgeThen 79 = .ok (.iadd, 1) := by decide +kernel
theorem dX10_layAgeThen_80 : decode cX10_layAgeThen 80 = .ok (.iload_n 3, 1) := by decide +kernel
theorem dX10_layAgeThen_81 : decode cX10_layAgeThen 81 = .ok (.iadd, 1) := by decide +kernel
theorem dX10_layAgeThen_82 : decode cX10_layAgeThen 82 = .ok (.iload 7, 2) := by decide +kernel
theorem dX10_layAgeThen_84 : decode cX10_layAgeThen 84 = .ok (.ifCond .eq 13, 3) := by decide +kernel
theorem dX10_layAgeThen_87 : decode cX10_layAgeThen 87 = .ok (.aload_n 0, 1) := by decide +kernel
theorem dX10_layAgeThen_88 : decode cX10_layAgeThen 88 = .ok (.iload_n 1, 1) := by decide +kernel
theorem dX10_layAgeThen_89 : decode cX10_layAgeThen 89 = .ok (.iload 6, 2) := by decide +kernel
theorem dX10_layAgeThen_91 : decode cX10_layAgeThen 91 = .ok (.invokevirtual 209, 3) := by decide +kernel
theorem dX10_layAgeThen_94 : decode cX10_layAgeThen 94 = .ok (.goto 5, 3) := by decide +kernel
theorem dX10_layAgeThen_97 : decode cX10_layAgeThen 97 = .ok (.bipush (-6), 2) := by decide +kernel
theorem dX10_layAgeThen_99 : decode cX10_layAgeThen 99 = .ok (.iastore, 1) := by decide +kernel
theorem dX10_layAgeThen_100 : decode cX10_layAgeThen 100 = .ok (.return_, 1) := by decide +kernel
theorem dX10_thenOf_0 : decode cX10_thenOf 0 = .ok (.aload_n 0, 1) := by decide +kernel
theorem dX10_thenOf_1 : decode cX10_thenOf 1 = .ok (.getfield 58, 3) := by decide +kernel
theorem dX10_thenOf_4 : decode cX10_thenOf 4 = .ok (.iconst 3, 1) := by decide +kernel
theorem dX10_thenOf_5 : decode cX10_thenOf 5 = .ok (.iload_n 1, 1) := by decide +kernel
theorem dX10_thenOf_6 : decode cX10_thenOf 6 = .ok (.imul, 1) := by decide +kernel
theorem dX10_thenOf_7 : decode cX10_thenOf 7 = .ok (.iload 4, 2) := by decide +kernel
theorem dX10_thenOf_9 : decode cX10_thenOf 9 = .ok (.bipush 9, 2) := by decide +kernel
theorem dX10_thenOf_11 : decode cX10_thenOf 11 = .ok (.idiv, 1) := by decide +kernel
theorem dX10_thenOf_12 : decode cX10_thenOf 12 = .ok (.iadd, 1) := by decide +kernel
theorem dX10_thenOf_13 : decode cX10_thenOf 13 = .ok (.iaload, 1) := by decide +kernel
theorem dX10_thenOf_14 : decode cX10_thenOf 14 = .ok (.istore 5, 2) := by decide +kernel
theorem dX10_thenOf_16 : decode cX10_thenOf 16 = .ok (.aload_n 0, 1) := by decide +kernel
theorem dX10_thenOf_17 : decode cX10_thenOf 17 = .ok (.getfield 58, 3) := by decide +kernel
theorem dX10_thenOf_20 : decode cX10_thenOf 20 = .ok (.bipush 78, 2) := by decide +kernel
theorem dX10_thenOf_22 : decode cX10_thenOf 22 = .ok (.iconst 3, 1) := by decide +kernel
theorem dX10_thenOf_23 : decode cX10_thenOf 23 = .ok (.iload_n 2, 1) := by decide +kernel
theorem dX10_thenOf_24 : decode cX10_thenOf 24 = .ok (.imul, 1) := by decide +kernel
theorem dX10_thenOf_25 : decode cX10_thenOf 25 = .ok (.iadd, 1) := by decide +kernel
theorem dX10_thenOf_26 : decode cX10_thenOf 26 = .ok (.iload 4, 2) := by decide +kernel
theorem dX10_thenOf_28 : decode cX10_thenOf 28 = .ok (.iconst 3, 1) := by decide +kernel
theorem dX10_thenOf_29 : decode cX10_thenOf 29 = .ok (.idiv, 1) := by decide +kernel
theorem dX10_thenOf_30 : decode cX10_thenOf 30 = .ok (.iconst 3, 1) := by decide +kernel
theorem dX10_thenOf_31 : decode cX10_thenOf 31 = .ok (.irem, 1) := by decide +kernel
theorem dX10_thenOf_32 : decode cX10_thenOf 32 = .ok (.iadd, 1) := by decide +kernel
theorem dX10_thenOf_33 : decode cX10_thenOf 33 = .ok (.iaload, 1) := by decide +kernel
theorem dX10_thenOf_34 : decode cX10_thenOf 34 = .ok (.istore 6, 2) := by decide +kernel
theorem dX10_thenOf_36 : decode cX10_thenOf 36 = .ok (.aload_n 0, 1) := by decide +kernel
theorem dX10_thenOf_37 : decode cX10_thenOf 37 = .ok (.getfield 58, 3) := by decide +kernel
theorem dX10_thenOf_40 : decode cX10_thenOf 40 = .ok (.sipush 156, 3) := by decide +kernel
theorem dX10_thenOf_43 : decode cX10_thenOf 43 = .ok (.iconst 3, 1) := by decide +kernel
theorem dX10_thenOf_44 : decode cX10_thenOf 44 = .ok (.iload_n 3, 1) := by decide +kernel
theorem dX10_thenOf_45 : decode cX10_thenOf 45 = .ok (.imul, 1) := by decide +kernel
theorem dX10_thenOf_46 : decode cX10_thenOf 46 = .ok (.iadd, 1) := by decide +kernel
theorem dX10_thenOf_47 : decode cX10_thenOf 47 = .ok (.iload 4, 2) := by decide +kernel
theorem dX10_thenOf_49 : decode cX10_thenOf 49 = .ok (.iconst 3, 1) := by decide +kernel
theorem dX10_thenOf_50 : decode cX10_thenOf 50 = .ok (.irem, 1) := by decide +kernel
theorem dX10_thenOf_51 : decode cX10_thenOf 51 = .ok (.iadd, 1) := by decide +kernel
theorem dX10_thenOf_52 : decode cX10_thenOf 52 = .ok (.iaload, 1) := by decide +kernel
theorem dX10_thenOf_53 : decode cX10_thenOf 53 = .ok (.istore 7, 2) := by decide +kernel
theorem dX10_thenOf_55 : decode cX10_thenOf 55 = .ok (.iload 5, 2) := by decide +kernel
theorem dX10_thenOf_57 : decode cX10_thenOf 57 = .ok (.ifCond .lt 13, 3) := by decide +kernel
theorem dX10_thenOf_60 : decode cX10_thenOf 60 = .ok (.iload 6, 2) := by decide +kernel
theorem dX10_thenOf_62 : decode cX10_thenOf 62 = .ok (.ifCond .lt 8, 3) := by decide +kernel
theorem dX10_thenOf_65 : decode cX10_thenOf 65 = .ok (.iload 7, 2) := by decide +kernel
theorem dX10_thenOf_67 : decode cX10_thenOf 67 = .ok (.ifCond .ge 8, 3) := by decide +kernel
theorem dX10_thenOf_70 : decode cX10_thenOf 70 = .ok (.bipush (-6), 2) := by decide +kernel
theorem dX10_thenOf_72 : decode cX10_thenOf 72 = .ok (.goto 12, 3) := by decide +kernel
theorem dX10_thenOf_75 : decode cX10_thenOf 75 = .ok (.iload 5, 2) := by decide +kernel
theorem dX10_thenOf_77 : decode cX10_thenOf 77 = .ok (.iload 6, 2) := by decide +kernel
theorem dX10_thenOf_79 : decode cX10_thenOf 79 = .ok (.iload 7, 2) := by decide +kernel
theorem dX10_thenOf_81 : decode cX10_thenOf 81 = .ok (.invokestatic 212, 3) := by decide +kernel
theorem dX10_thenOf_84 : decode cX10_thenOf 84 = .ok (.ireturn, 1) := by decide +kernel
theorem dX10_halvesBy_0 : decode cX10_halvesBy 0 = .ok (.iload 4, 2) := by decide +kernel
theorem dX10_halvesBy_2 : decode cX10_halvesBy 2 = .ok (.invokestatic 215, 3) := by decide +kernel
theorem dX10_halvesBy_5 : decode cX10_halvesBy 5 = .ok (.iload 5, 2) := by decide +kernel
theorem dX10_halvesBy_7 : decode cX10_halvesBy 7 = .ok (.if_icmp .le 8, 3) := by decide +kernel
theorem dX10_halvesBy_10 : decode cX10_halvesBy 10 = .ok (.bipush (-6), 2) := by decide +kernel
theorem dX10_halvesBy_12 : decode cX10_halvesBy 12 = .ok (.goto 12, 3) := by decide +kernel
theorem dX10_halvesBy_15 : decode cX10_halvesBy 15 = .ok (.aload_n 0, 1) := by decide +kernel
theorem dX10_halvesBy_16 : decode cX10_halvesBy 16 = .ok (.iload_n 1, 1) := by decide +kernel
theorem dX10_halvesBy_17 : decode cX10_halvesBy 17 = .ok (.iload_n 2, 1) := by decide +kernel
theorem dX10_halvesBy_18 : decode cX10_halvesBy 18 = .ok (.iload_n 3, 1) := by decide +kernel
theorem dX10_halvesBy_19 : decode cX10_halvesBy 19 = .ok (.iload 4, 2) := by decide +kernel
theorem dX10_halvesBy_21 : decode cX10_halvesBy 21 = .ok (.invokevirtual 218, 3) := by decide +kernel
theorem dX10_halvesBy_24 : decode cX10_halvesBy 24 = .ok (.istore 7, 2) := by decide +kernel
theorem dX10_halvesBy_26 : decode cX10_halvesBy 26 = .ok (.iload 7, 2) := by decide +kernel
theorem dX10_halvesBy_28 : decode cX10_halvesBy 28 = .ok (.ifCond .ge 9, 3) := by decide +kernel
theorem dX10_halvesBy_31 : decode cX10_halvesBy 31 = .ok (.sipush 1000, 3) := by decide +kernel
theorem dX10_halvesBy_34 : decode cX10_halvesBy 34 = .ok (.goto 25, 3) := by decide +kernel
theorem dX10_halvesBy_37 : decode cX10_halvesBy 37 = .ok (.iload 4, 2) := by decide +kernel
theorem dX10_halvesBy_39 : decode cX10_halvesBy 39 = .ok (.invokestatic 215, 3) := by decide +kernel
theorem dX10_halvesBy_42 : decode cX10_halvesBy 42 = .ok (.aload_n 0, 1) := by decide +kernel
theorem dX10_halvesBy_43 : decode cX10_halvesBy 43 = .ok (.getfield 62, 3) := by decide +kernel
theorem dX10_halvesBy_46 : decode cX10_halvesBy 46 = .ok (.sipush 17576, 3) := by decide +kernel
theorem dX10_halvesBy_49 : decode cX10_halvesBy 49 = .ok (.iload 6, 2) := by decide +kernel
theorem dX10_halvesBy_51 : decode cX10_halvesBy 51 = .ok (.iconst 1, 1) := by decide +kernel
theorem dX10_halvesBy_52 : decode cX10_halvesBy 52 = .ok (.isub, 1) := by decide +kernel
theorem dX10_halvesBy_53 : decode cX10_halvesBy 53 = .ok (.imul, 1) := by decide +kernel
theorem dX10_halvesBy_54 : decode cX10_halvesBy 54 = .ok (.iload 7, 2) := by decide +kernel
theorem dX10_halvesBy_56 : decode cX10_halvesBy 56 = .ok (.iadd, 1) := by decide +kernel
theorem dX10_halvesBy_57 : decode cX10_halvesBy 57 = .ok (.iaload, 1) := by decide +kernel
theorem dX10_halvesBy_58 : decode cX10_halvesBy 58 = .ok (.iadd, 1) := by decide +kernel
theorem dX10_halvesBy_59 : decode cX10_halvesBy 59 = .ok (.ireturn, 1) := by decide +kernel
theorem dX10_manyAt_0 : decode cX10_manyAt 0 = .ok (.iload_n 2, 1) := by decide +kernel
theorem dX10_manyAt_1 : decode cX10_manyAt 1 = .ok (.ifCond .ne 12, 3) := by decide +kernel
theorem dX10_manyAt_4 : decode cX10_manyAt 4 = .ok (.aload_n 0, 1) := by decide +kernel
theorem dX10_manyAt_5 : decode cX10_manyAt 5 = .ok (.getfield 55, 3) := by decide +kernel
theorem dX10_manyAt_8 : decode cX10_manyAt 8 = .ok (.iload_n 1, 1) := by decide +kernel
theorem dX10_manyAt_9 : decode cX10_manyAt 9 = .ok (.iaload, 1) := by decide +kernel
theorem dX10_manyAt_10 : decode cX10_manyAt 10 = .ok (.goto 9, 3) := by decide +kernel
theorem dX10_manyAt_13 : decode cX10_manyAt 13 = .ok (.aload_n 0, 1) := by decide +kernel
theorem dX10_manyAt_14 : decode cX10_manyAt 14 = .ok (.getfield 65, 3) := by decide +kernel
theorem dX10_manyAt_17 : decode cX10_manyAt 17 = .ok (.iload_n 1, 1) := by decide +kernel
theorem dX10_manyAt_18 : decode cX10_manyAt 18 = .ok (.iaload, 1) := by decide +kernel
theorem dX10_manyAt_19 : decode cX10_manyAt 19 = .ok (.ireturn, 1) := by decide +kernel
theorem dX10_layHalves_0 : decode cX10_layHalves 0 = .ok (.iconst 0, 1) := by decide +kernel
theorem dX10_layHalves_1 : decode cX10_layHalves 1 = .ok (.istore_n 3, 1) := by decide +kernel
theorem dX10_layHalves_2 : decode cX10_layHalves 2 = .ok (.iload_n 3, 1) := by decide +kernel
theorem dX10_layHalves_3 : decode cX10_layHalves 3 = .ok (.aload_n 0, 1) := by decide +kernel
theorem dX10_layHalves_4 : decode cX10_layHalves 4 = .ok (.iconst 0, 1) := by decide +kernel
theorem dX10_layHalves_5 : decode cX10_layHalves 5 = .ok (.iload_n 1, 1) := by decide +kernel
theorem dX10_layHalves_6 : decode cX10_layHalves 6 = .ok (.invokevirtual 222, 3) := by decide +kernel
theorem dX10_layHalves_9 : decode cX10_layHalves 9 = .ok (.if_icmp .ge 134, 3) := by decide +kernel
theorem dX10_layHalves_12 : decode cX10_layHalves 12 = .ok (.iconst 0, 1) := by decide +kernel
theorem dX10_layHalves_13 : decode cX10_layHalves 13 = .ok (.istore 4, 2) := by decide +kernel
theorem dX10_layHalves_15 : decode cX10_layHalves 15 = .ok (.iload 4, 2) := by decide +kernel
theorem dX10_layHalves_17 : decode cX10_layHalves 17 = .ok (.aload_n 0, 1) := by decide +kernel
theorem dX10_layHalves_18 : decode cX10_layHalves 18 = .ok (.iconst 1, 1) := by decide +kernel
theorem dX10_layHalves_19 : decode cX10_layHalves 19 = .ok (.iload_n 1, 1) := by decide +kernel
theorem dX10_layHalves_20 : decode cX10_layHalves 20 = .ok (.invokevirtual 222, 3) := by decide +kernel
theorem dX10_layHalves_23 : decode cX10_layHalves 23 = .ok (.if_icmp .ge 114, 3) := by decide +kernel
theorem dX10_layHalves_26 : decode cX10_layHalves 26 = .ok (.iconst 0, 1) := by decide +kernel
theorem dX10_layHalves_27 : decode cX10_layHalves 27 = .ok (.istore 5, 2) := by decide +kernel
theorem dX10_layHalves_29 : decode cX10_layHalves 29 = .ok (.iload 5, 2) := by decide +kernel
theorem dX10_layHalves_31 : decode cX10_layHalves 31 = .ok (.aload_n 0, 1) := by decide +kernel
theorem dX10_layHalves_32 : decode cX10_layHalves 32 = .ok (.iconst 2, 1) := by decide +kernel
theorem dX10_layHalves_33 : decode cX10_layHalves 33 = .ok (.iload_n 1, 1) := by decide +kernel
theorem dX10_layHalves_34 : decode cX10_layHalves 34 = .ok (.invokevirtual 222, 3) := by decide +kernel
theorem dX10_layHalves_37 : decode cX10_layHalves 37 = .ok (.if_icmp .ge 94, 3) := by decide +kernel
theorem dX10_layHalves_40 : decode cX10_layHalves 40 = .ok (.iload_n 1, 1) := by decide +kernel
theorem dX10_layHalves_41 : decode cX10_layHalves 41 = .ok (.ifCond .ne 7, 3) := by decide +kernel
theorem dX10_layHalves_44 : decode cX10_layHalves 44 = .ok (.iconst 0, 1) := by decide +kernel
theorem dX10_layHalves_45 : decode cX10_layHalves 45 = .ok (.goto 6, 3) := by decide +kernel
theorem dX10_layHalves_48 : decode cX10_layHalves 48 = .ok (.sipush 1000, 3) := by decide +kernel
theorem dX10_layHalves_51 : decode cX10_layHalves 51 = .ok (.istore 6, 2) := by decide +kernel
theorem dX10_layHalves_53 : decode cX10_layHalves 53 = .ok (.iconst 0, 1) := by decide +kernel
theorem dX10_layHalves_54 : decode cX10_layHalves 54 = .ok (.istore 7, 2) := by decide +kernel
theorem dX10_layHalves_56 : decode cX10_layHalves 56 = .ok (.iload 7, 2) := by decide +kernel
theorem dX10_layHalves_58 : decode cX10_layHalves 58 = .ok (.bipush 27, 2) := by decide +kernel
theorem dX10_layHalves_60 : decode cX10_layHalves 60 = .ok (.if_icmp .ge 44, 3) := by decide +kernel
theorem dX10_layHalves_63 : decode cX10_layHalves 63 = .ok (.iload_n 1, 1) := by decide +kernel
theorem dX10_layHalves_64 : decode cX10_layHalves 64 = .ok (.ifCond .le 40, 3) := by decide +kernel
theorem dX10_layHalves_67 : decode cX10_layHalves 67 = .ok (.aload_n 0, 1) := by decide +kernel
theorem dX10_layHalves_68 : decode cX10_layHalves 68 = .ok (.iload_n 3, 1) := by decide +kernel
theorem dX10_layHalves_69 : decode cX10_layHalves 69 = .ok (.iload 4, 2) := by decide +kernel
theorem dX10_layHalves_71 : decode cX10_layHalves 71 = .ok (.iload 5, 2) := by decide +kernel
theorem dX10_layHalves_73 : decode cX10_layHalves 73 = .ok (.iload 7, 2) := by decide +kernel
theorem dX10_layHalves_75 : decode cX10_layHalves 75 = .ok (.iload_n 2, 1) := by decide +kernel
theorem dX10_layHalves_76 : decode cX10_layHalves 76 = .ok (.iload_n 1, 1) := by decide +kernel
theorem dX10_layHalves_77 : decode cX10_layHalves 77 = .ok (.invokevirtual 225, 3) := by decide +kernel
theorem dX10_layHalves_80 : decode cX10_layHalves 80 = .ok (.istore 8, 2) := by decide +kernel
theorem dX10_layHalves_82 : decode cX10_layHalves 82 = .ok (.iload 8, 2) := by decide +kernel
theorem dX10_layHalves_84 : decode cX10_layHalves 84 = .ok (.iload 6, 2) := by decide +kernel
theorem dX10_layHalves_86 : decode cX10_layHalves 86 = .ok (.if_icmp .ge 8, 3) := by decide +kernel
theorem dX10_layHalves_89 : decode cX10_layHalves 89 = .ok (.iload 8, 2) := by decide +kernel
theorem dX10_layHalves_91 : decode cX10_layHalves 91 = .ok (.goto 5, 3) := by decide +kernel
theorem dX10_layHalves_94 : decode cX10_layHalves 94 = .ok (.iload 6, 2) := by decide +kernel
theorem dX10_layHalves_96 : decode cX10_layHalves 96 = .ok (.istore 6, 2) := by decide +kernel
theorem dX10_layHalves_98 : decode cX10_layHalves 98 = .ok (.iinc 7 1, 3) := by decide +kernel
theorem dX10_layHalves_101 : decode cX10_layHalves 101 = .ok (.goto (-45), 3) := by decide +kernel
theorem dX10_layHalves_104 : decode cX10_layHalves 104 = .ok (.aload_n 0, 1) := by decide +kernel
theorem dX10_layHalves_105 : decode cX10_layHalves 105 = .ok (.getfield 62, 3) := by decide +kernel
theorem dX10_layHalves_108 : decode cX10_layHalves 108 = .ok (.sipush 17576, 3) := by decide +kernel
theorem dX10_layHalves_111 : decode cX10_layHalves 111 = .ok (.iload_n 1, 1) := by decide +kernel
theorem dX10_layHalves_112 : decode cX10_layHalves 112 = .ok (.imul, 1) := by decide +kernel
theorem dX10_layHalves_113 : decode cX10_layHalves 113 = .ok (.iload_n 3, 1) := by decide +kernel
theorem dX10_layHalves_114 : decode cX10_layHalves 114 = .ok (.iload 4, 2) := by decide +kernel
theorem dX10_layHalves_116 : decode cX10_layHalves 116 = .ok (.iload 5, 2) := by decide +kernel
theorem dX10_layHalves_118 : decode cX10_layHalves 118 = .ok (.invokestatic 212, 3) := by decide +kernel
theorem dX10_layHalves_121 : decode cX10_layHalves 121 = .ok (.iadd, 1) := by decide +kernel
theorem dX10_layHalves_122 : decode cX10_layHalves 122 = .ok (.iload 6, 2) := by decide +kernel
theorem dX10_layHalves_124 : decode cX10_layHalves 124 = .ok (.iastore, 1) := by decide +kernel
theorem dX10_layHalves_125 : decode cX10_layHalves 125 = .ok (.iinc 5 1, 3) := by decide +kernel
theorem dX10_layHalves_128 : decode cX10_layHalves 128 = .ok (.goto (-99), 3) := by decide +kernel
theorem dX10_layHalves_131 : decode cX10_layHalves 131 = .ok (.iinc 4 1, 3) := by decide +kernel
theorem dX10_layHalves_134 : decode cX10_layHalves 134 = .ok (.goto (-119), 3) := by decide +kernel
theorem dX10_layHalves_137 : decode cX10_layHalves 137 = .ok (.iinc 3 1, 3) := by decide +kernel
theorem dX10_layHalves_140 : decode cX10_layHalves 140 = .ok (.goto (-138), 3) := by decide +kernel
theorem dX10_layHalves_143 : decode cX10_layHalves 143 = .ok (.return_, 1) := by decide +kernel
theorem dX10_findPlan_0 : decode cX10_findPlan 0 = .ok (.iconst 0, 1) := by decide +kernel
theorem dX10_findPlan_1 : decode cX10_findPlan 1 = .ok (.istore 5, 2) := by decide +kernel
theorem dX10_findPlan_3 : decode cX10_findPlan 3 = .ok (.iconst 0, 1) := by decide +kernel
theorem dX10_findPlan_4 : decode cX10_findPlan 4 = .ok (.istore 6, 2) := by decide +kernel
theorem dX10_findPlan_6 : decode cX10_findPlan 6 = .ok (.iload 6, 2) := by decide +kernel
theorem dX10_findPlan_8 : decode cX10_findPlan 8 = .ok (.iconst 3, 1) := by decide +kernel
theorem dX10_findPlan_9 : decode cX10_findPlan 9 = .ok (.if_icmp .ge 18, 3) := by decide +kernel
theorem dX10_findPlan_12 : decode cX10_findPlan 12 = .ok (.aload_n 0, 1) := by decide +kernel
theorem dX10_findPlan_13 : decode cX10_findPlan 13 = .ok (.getfield 49, 3) := by decide +kernel
theorem dX10_findPlan_16 : decode cX10_findPlan 16 = .ok (.iload 6, 2) := by decide +kernel
theorem dX10_findPlan_18 : decode cX10_findPlan 18 = .ok (.bipush (-6), 2) := by decide +kernel
theorem dX10_findPlan_20 : decode cX10_findPlan 20 = .ok (.iastore, 1) := by decide +kernel
theorem dX10_findPlan_21 : decode cX10_findPlan 21 = .ok (.iinc 6 1, 3) := by decide +kernel
theorem dX10_findPlan_24 : decode cX10_findPlan 24 = .ok (.goto (-18), 3) := by decide +kernel
theorem dX10_findPlan_27 : decode cX10_findPlan 27 = .ok (.iconst 0, 1) := by decide +kernel
theorem dX10_findPlan_28 : decode cX10_findPlan 28 = .ok (.istore 6, 2) := by decide +kernel
theorem dX10_findPlan_30 : decode cX10_findPlan 30 = .ok (.iload 6, 2) := by decide +kernel
theorem dX10_findPlan_32 : decode cX10_findPlan 32 = .ok (.bipush 6, 2) := by decide +kernel
theorem dX10_findPlan_34 : decode cX10_findPlan 34 = .ok (.if_icmp .ge 31, 3) := by decide +kernel
theorem dX10_findPlan_37 : decode cX10_findPlan 37 = .ok (.iload_n 1, 1) := by decide +kernel
theorem dX10_findPlan_38 : decode cX10_findPlan 38 = .ok (.iload 6, 2) := by decide +kernel
theorem dX10_findPlan_40 : decode cX10_findPlan 40 = .ok (.ishr, 1) := by decide +kernel
theorem dX10_findPlan_41 : decode cX10_findPlan 41 = .ok (.iconst 1, 1) := by decide +kernel
theorem dX10_findPlan_42 : decode cX10_findPlan 42 = .ok (.iand, 1) := by decide +kernel
theorem dX10_findPlan_43 : decode cX10_findPlan 43 = .ok (.iconst 1, 1) := by decide +kernel
theorem dX10_findPlan_44 : decode cX10_findPlan 44 = .ok (.if_icmp .ne 15, 3) := by decide +kernel
theorem dX10_findPlan_47 : decode cX10_findPlan 47 = .ok (.aload_n 0, 1) := by decide +kernel
theorem dX10_findPlan_48 : decode cX10_findPlan 48 = .ok (.getfield 49, 3) := by decide +kernel
theorem dX10_findPlan_51 : decode cX10_findPlan 51 = .ok (.iload 5, 2) := by decide +kernel
theorem dX10_findPlan_53 : decode cX10_findPlan 53 = .ok (.iload 6, 2) := by decide +kernel
theorem dX10_findPlan_55 : decode cX10_findPlan 55 = .ok (.iastore, 1) := by decide +kernel
theorem dX10_findPlan_56 : decode cX10_findPlan 56 = .ok (.iinc 5 1, 3) := by decide +kernel
theorem dX10_findPlan_59 : decode cX10_findPlan 59 = .ok (.iinc 6 1, 3) := by decide +kernel
theorem dX10_findPlan_62 : decode cX10_findPlan 62 = .ok (.goto (-32), 3) := by decide +kernel
theorem dX10_findPlan_65 : decode cX10_findPlan 65 = .ok (.iconst 0, 1) := by decide +kernel
theorem dX10_findPlan_66 : decode cX10_findPlan 66 = .ok (.istore 6, 2) := by decide +kernel
theorem dX10_findPlan_68 : decode cX10_findPlan 68 = .ok (.iload 6, 2) := by decide +kernel
theorem dX10_findPlan_70 : decode cX10_findPlan 70 = .ok (.iconst 3, 1) := by decide +kernel
theorem dX10_findPlan_71 : decode cX10_findPlan 71 = .ok (.if_icmp .ge 18, 3) := by decide +kernel
theorem dX10_findPlan_74 : decode cX10_findPlan 74 = .ok (.aload_n 0, 1) := by decide +kernel
theorem dX10_findPlan_75 : decode cX10_findPlan 75 = .ok (.iload 6, 2) := by decide +kernel
theorem dX10_findPlan_77 : decode cX10_findPlan 77 = .ok (.iload_n 2, 1) := by decide +kernel
theorem dX10_findPlan_78 : decode cX10_findPlan 78 = .ok (.iload 4, 2) := by decide +kernel
theorem dX10_findPlan_80 : decode cX10_findPlan 80 = .ok (.invokevirtual 229, 3) := by decide +kernel
theorem dX10_findPlan_83 : decode cX10_findPlan 83 = .ok (.iinc 6 1, 3) := by decide +kernel
theorem dX10_findPlan_86 : decode cX10_findPlan 86 = .ok (.goto (-18), 3) := by decide +kernel
theorem dX10_findPlan_89 : decode cX10_findPlan 89 = .ok (.iconst 0, 1) := by decide +kernel
theorem dX10_findPlan_90 : decode cX10_findPlan 90 = .ok (.istore 6, 2) := by decide +kernel
theorem dX10_findPlan_92 : decode cX10_findPlan 92 = .ok (.iload 6, 2) := by decide +kernel
theorem dX10_findPlan_94 : decode cX10_findPlan 94 = .ok (.iload_n 2, 1) := by decide +kernel
theorem dX10_findPlan_95 : decode cX10_findPlan 95 = .ok (.if_icmp .gt 16, 3) := by decide +kernel
theorem dX10_findPlan_98 : decode cX10_findPlan 98 = .ok (.aload_n 0, 1) := by decide +kernel
theorem dX10_findPlan_99 : decode cX10_findPlan 99 = .ok (.iload 6, 2) := by decide +kernel
theorem dX10_findPlan_101 : decode cX10_findPlan 101 = .ok (.iload_n 3, 1) := by decide +kernel
theorem dX10_findPlan_102 : decode cX10_findPlan 102 = .ok (.invokevirtual 232, 3) := by decide +kernel
theorem dX10_findPlan_105 : decode cX10_findPlan 105 = .ok (.iinc 6 1, 3) := by decide +kernel
theorem dX10_findPlan_108 : decode cX10_findPlan 108 = .ok (.goto (-16), 3) := by decide +kernel
theorem dX10_findPlan_111 : decode cX10_findPlan 111 = .ok (.return_, 1) := by decide +kernel
theorem dX10_planRefusal_0 : decode cX10_planRefusal 0 = .ok (.iload_n 1, 1) := by decide +kernel
theorem dX10_planRefusal_1 : decode cX10_planRefusal 1 = .ok (.i2l, 1) := by decide +kernel
theorem dX10_planRefusal_2 : decode cX10_planRefusal 2 = .ok (.lconst 0, 1) := by decide +kernel
theorem dX10_planRefusal_3 : decode cX10_planRefusal 3 = .ok (.ldc2_w 235, 3) := by decide +kernel
theorem dX10_planRefusal_6 : decode cX10_planRefusal 6 = .ok (.invokestatic 94, 3) := by decide +kernel
theorem dX10_planRefusal_9 : decode cX10_planRefusal 9 = .ok (.ifCond .eq 14, 3) := by decide +kernel
theorem dX10_planRefusal_12 : decode cX10_planRefusal 12 = .ok (.iload_n 1, 1) := by decide +kernel
theorem dX10_planRefusal_13 : decode cX10_planRefusal 13 = .ok (.aload_n 0, 1) := by decide +kernel
theorem dX10_planRefusal_14 : decode cX10_planRefusal 14 = .ok (.getfield 98, 3) := by decide +kernel
theorem dX10_planRefusal_17 : decode cX10_planRefusal 17 = .ok (.iconst (-1), 1) := by decide +kernel
theorem dX10_planRefusal_18 : decode cX10_planRefusal 18 = .ok (.ixor, 1) := by decide +kernel
theorem dX10_planRefusal_19 : decode cX10_planRefusal 19 = .ok (.iand, 1) := by decide +kernel
theorem dX10_planRefusal_20 : decode cX10_planRefusal 20 = .ok (.ifCond .eq 5, 3) := by decide +kernel
theorem dX10_planRefusal_23 : decode cX10_planRefusal 23 = .ok (.iconst (-1), 1) := by decide +kernel
theorem dX10_planRefusal_24 : decode cX10_planRefusal 24 = .ok (.ireturn, 1) := by decide +kernel
theorem dX10_planRefusal_25 : decode cX10_planRefusal 25 = .ok (.iload_n 2, 1) := by decide +kernel
theorem dX10_planRefusal_26 : decode cX10_planRefusal 26 = .ok (.i2l, 1) := by decide +kernel
theorem dX10_planRefusal_27 : decode cX10_planRefusal 27 = .ok (.lconst 0, 1) := by decide +kernel
theorem dX10_planRefusal_28 : decode cX10_planRefusal 28 = .ok (.ldc2_w 237, 3) := by decide +kernel
theorem dX10_planRefusal_31 : decode cX10_planRefusal 31 = .ok (.invokestatic 94, 3) := by decide +kernel
theorem dX10_planRefusal_34 : decode cX10_planRefusal 34 = .ok (.ifCond .eq 28, 3) := by decide +kernel
theorem dX10_planRefusal_37 : decode cX10_planRefusal 37 = .ok (.iload_n 3, 1) := by decide +kernel
theorem dX10_planRefusal_38 : decode cX10_planRefusal 38 = .ok (.i2l, 1) := by decide +kernel
theorem dX10_planRefusal_39 : decode cX10_planRefusal 39 = .ok (.lconst 0, 1) := by decide +kernel
theorem dX10_planRefusal_40 : decode cX10_planRefusal 40 = .ok (.ldc2_w 237, 3) := by decide +kernel
theorem dX10_planRefusal_43 : decode cX10_planRefusal 43 = .ok (.invokestatic 94, 3) := by decide +kernel
theorem dX10_planRefusal_46 : decode cX10_planRefusal 46 = .ok (.ifCond .eq 16, 3) := by decide +kernel
theorem dX10_planRefusal_49 : decode cX10_planRefusal 49 = .ok (.iload 4, 2) := by decide +kernel
theorem dX10_planRefusal_51 : decode cX10_planRefusal 51 = .ok (.i2l, 1) := by decide +kernel
theorem dX10_planRefusal_52 : decode cX10_planRefusal 52 = .ok (.lconst 0, 1) := by decide +kernel
theorem dX10_planRefusal_53 : decode cX10_planRefusal 53 = .ok (.ldc2_w 101, 3) := by decide +kernel
theorem dX10_planRefusal_56 : decode cX10_planRefusal 56 = .ok (.invokestatic 94, 3) := by decide +kernel
theorem dX10_planRefusal_59 : decode cX10_planRefusal 59 = .ok (.ifCond .ne 6, 3) := by decide +kernel
theorem dX10_planRefusal_62 : decode cX10_planRefusal 62 = .ok (.bipush (-2), 2) := by decide +kernel
theorem dX10_planRefusal_64 : decode cX10_planRefusal 64 = .ok (.ireturn, 1) := by decide +kernel
theorem dX10_planRefusal_65 : decode cX10_planRefusal 65 = .ok (.iload_n 1, 1) := by decide +kernel
theorem dX10_planRefusal_66 : decode cX10_planRefusal 66 = .ok (.invokestatic 105, 3) := by decide +kernel
theorem dX10_planRefusal_69 : decode cX10_planRefusal 69 = .ok (.iconst 3, 1) := by decide +kernel
theorem dX10_planRefusal_70 : decode cX10_planRefusal 70 = .ok (.if_icmp .le 8, 3) := by decide +kernel
theorem dX10_planRefusal_73 : decode cX10_planRefusal 73 = .ok (.bipush (-4), 2) := by decide +kernel
theorem dX10_planRefusal_75 : decode cX10_planRefusal 75 = .ok (.goto 4, 3) := by decide +kernel
theorem dX10_planRefusal_78 : decode cX10_planRefusal 78 = .ok (.iconst 0, 1) := by decide +kernel
theorem dX10_planRefusal_79 : decode cX10_planRefusal 79 = .ok (.ireturn, 1) := by decide +kernel
theorem dX10_keeps_0 : decode cX10_keeps 0 = .ok (.aload_n 0, 1) := by decide +kernel
theorem dX10_keeps_1 : decode cX10_keeps 1 = .ok (.iload_n 1, 1) := by decide +kernel
theorem dX10_keeps_2 : decode cX10_keeps 2 = .ok (.iload_n 2, 1) := by decide +kernel
theorem dX10_keeps_3 : decode cX10_keeps 3 = .ok (.iload_n 3, 1) := by decide +kernel
theorem dX10_keeps_4 : decode cX10_keeps 4 = .ok (.iload 4, 2) := by decide +kernel
theorem dX10_keeps_6 : decode cX10_keeps 6 = .ok (.invokevirtual 239, 3) := by decide +kernel
theorem dX10_keeps_9 : decode cX10_keeps 9 = .ok (.istore 5, 2) := by decide +kernel
theorem dX10_keeps_11 : decode cX10_keeps 11 = .ok (.iload 5, 2) := by decide +kernel
theorem dX10_keeps_13 : decode cX10_keeps 13 = .ok (.ifCond .ge 6, 3) := by decide +kernel
theorem dX10_keeps_16 : decode cX10_keeps 16 = .ok (.iload 5, 2) := by decide +kernel
theorem dX10_keeps_18 : decode cX10_keeps 18 = .ok (.ireturn, 1) := by decide +kernel
theorem dX10_keeps_19 : decode cX10_keeps 19 = .ok (.aload_n 0, 1) := by decide +kernel
theorem dX10_keeps_20 : decode cX10_keeps 20 = .ok (.iload_n 1, 1) := by decide +kernel
theorem dX10_keeps_21 : decode cX10_keeps 21 = .ok (.iload_n 2, 1) := by decide +kernel
theorem dX10_keeps_22 : decode cX10_keeps 22 = .ok (.iload_n 3, 1) := by decide +kernel
theorem dX10_keeps_23 : decode cX10_keeps 23 = .ok (.iload 4, 2) := by decide +kernel
theorem dX10_keeps_25 : decode cX10_keeps 25 = .ok (.invokevirtual 242, 3) := by decide +kernel
theorem dX10_keeps_28 : decode cX10_keeps 28 = .ok (.aload_n 0, 1) := by decide +kernel
theorem dX10_keeps_29 : decode cX10_keeps 29 = .ok (.getfield 62, 3) := by decide +kernel
theorem dX10_keeps_32 : decode cX10_keeps 32 = .ok (.sipush 17576, 3) := by decide +kernel
theorem dX10_keeps_35 : decode cX10_keeps 35 = .ok (.iload_n 2, 1) := by decide +kernel
theorem dX10_keeps_36 : decode cX10_keeps 36 = .ok (.imul, 1) := by decide +kernel
theorem dX10_keeps_37 : decode cX10_keeps 37 = .ok (.iaload, 1) := by decide +kernel
theorem dX10_keeps_38 : decode cX10_keeps 38 = .ok (.istore 6, 2) := by decide +kernel
theorem dX10_keeps_40 : decode cX10_keeps 40 = .ok (.iload 6, 2) := by decide +kernel
theorem dX10_keeps_42 : decode cX10_keeps 42 = .ok (.sipush 1000, 3) := by decide +kernel
theorem dX10_keeps_45 : decode cX10_keeps 45 = .ok (.if_icmp .lt 8, 3) := by decide +kernel
theorem dX10_keeps_48 : decode cX10_keeps 48 = .ok (.bipush (-6), 2) := by decide +kernel
theorem dX10_keeps_50 : decode cX10_keeps 50 = .ok (.goto 5, 3) := by decide +kernel
theorem dX10_keeps_53 : decode cX10_keeps 53 = .ok (.iload 6, 2) := by decide +kernel
theorem dX10_keeps_55 : decode cX10_keeps 55 = .ok (.ireturn, 1) := by decide +kernel
theorem dX10_firstHow_0 : decode cX10_firstHow 0 = .ok (.iload_n 1, 1) := by decide +kernel
theorem dX10_firstHow_1 : decode cX10_firstHow 1 = .ok (.bipush 26, 2) := by decide +kernel
theorem dX10_firstHow_3 : decode cX10_firstHow 3 = .ok (.idiv, 1) := by decide +kernel
theorem dX10_firstHow_4 : decode cX10_firstHow 4 = .ok (.bipush 26, 2) := by decide +kernel
theorem dX10_firstHow_6 : decode cX10_firstHow 6 = .ok (.idiv, 1) := by decide +kernel
theorem dX10_firstHow_7 : decode cX10_firstHow 7 = .ok (.istore 4, 2) := by decide +kernel
theorem dX10_firstHow_9 : decode cX10_firstHow 9 = .ok (.iload_n 1, 1) := by decide +kernel
theorem dX10_firstHow_10 : decode cX10_firstHow 10 = .ok (.bipush 26, 2) := by decide +kernel
theorem dX10_firstHow_12 : decode cX10_firstHow 12 = .ok (.idiv, 1) := by decide +kernel
theorem dX10_firstHow_13 : decode cX10_firstHow 13 = .ok (.bipush 26, 2) := by decide +kernel
theorem dX10_firstHow_15 : decode cX10_firstHow 15 = .ok (.irem, 1) := by decide +kernel
theorem dX10_firstHow_16 : decode cX10_firstHow 16 = .ok (.istore 5, 2) := by decide +kernel
theorem dX10_firstHow_18 : decode cX10_firstHow 18 = .ok (.iload_n 1, 1) := by decide +kernel
theorem dX10_firstHow_19 : decode cX10_firstHow 19 = .ok (.bipush 26, 2) := by decide +kernel
theorem dX10_firstHow_21 : decode cX10_firstHow 21 = .ok (.irem, 1) := by decide +kernel
theorem dX10_firstHow_22 : decode cX10_firstHow 22 = .ok (.istore 6, 2) := by decide +kernel
theorem dX10_firstHow_24 : decode cX10_firstHow 24 = .ok (.iconst 0, 1) := by decide +kernel
theorem dX10_firstHow_25 : decode cX10_firstHow 25 = .ok (.istore 7, 2) := by decide +kernel
theorem dX10_firstHow_27 : decode cX10_firstHow 27 = .ok (.iload 7, 2) := by decide +kernel
theorem dX10_firstHow_29 : decode cX10_firstHow 29 = .ok (.bipush 27, 2) := by decide +kernel
theorem dX10_firstHow_31 : decode cX10_firstHow 31 = .ok (.if_icmp .ge 41, 3) := by decide +kernel
theorem dX10_firstHow_34 : decode cX10_firstHow 34 = .ok (.aload_n 0, 1) := by decide +kernel
theorem dX10_firstHow_35 : decode cX10_firstHow 35 = .ok (.iload 4, 2) := by decide +kernel
theorem dX10_firstHow_37 : decode cX10_firstHow 37 = .ok (.iload 5, 2) := by decide +kernel
theorem dX10_firstHow_39 : decode cX10_firstHow 39 = .ok (.iload 6, 2) := by decide +kernel
theorem dX10_firstHow_41 : decode cX10_firstHow 41 = .ok (.iload 7, 2) := by decide +kernel
theorem dX10_firstHow_43 : decode cX10_firstHow 43 = .ok (.iload_n 2, 1) := by decide +kernel
theorem dX10_firstHow_44 : decode cX10_firstHow 44 = .ok (.iload_n 3, 1) := by decide +kernel
theorem dX10_firstHow_45 : decode cX10_firstHow 45 = .ok (.invokevirtual 225, 3) := by decide +kernel
theorem dX10_firstHow_48 : decode cX10_firstHow 48 = .ok (.aload_n 0, 1) := by decide +kernel
theorem dX10_firstHow_49 : decode cX10_firstHow 49 = .ok (.getfield 62, 3) := by decide +kernel
theorem dX10_firstHow_52 : decode cX10_firstHow 52 = .ok (.sipush 17576, 3) := by decide +kernel
theorem dX10_firstHow_55 : decode cX10_firstHow 55 = .ok (.iload_n 3, 1) := by decide +kernel
theorem dX10_firstHow_56 : decode cX10_firstHow 56 = .ok (.imul, 1) := by decide +kernel
theorem dX10_firstHow_57 : decode cX10_firstHow 57 = .ok (.iload_n 1, 1) := by decide +kernel
theorem dX10_firstHow_58 : decode cX10_firstHow 58 = .ok (.iadd, 1) := by decide +kernel
theorem dX10_firstHow_59 : decode cX10_firstHow 59 = .ok (.iaload, 1) := by decide +kernel
theorem dX10_firstHow_60 : decode cX10_firstHow 60 = .ok (.if_icmp .ne 6, 3) := by decide +kernel
theorem dX10_firstHow_63 : decode cX10_firstHow 63 = .ok (.iload 7, 2) := by decide +kernel
theorem dX10_firstHow_65 : decode cX10_firstHow 65 = .ok (.ireturn, 1) := by decide +kernel
theorem dX10_firstHow_66 : decode cX10_firstHow 66 = .ok (.iinc 7 1, 3) := by decide +kernel
theorem dX10_firstHow_69 : decode cX10_firstHow 69 = .ok (.goto (-42), 3) := by decide +kernel
theorem dX10_firstHow_72 : decode cX10_firstHow 72 = .ok (.iconst 0, 1) := by decide +kernel
theorem dX10_firstHow_73 : decode cX10_firstHow 73 = .ok (.ireturn, 1) := by decide +kernel
theorem dX10_plan_0 : decode cX10_plan 0 = .ok (.aload_n 0, 1) := by decide +kernel
theorem dX10_plan_1 : decode cX10_plan 1 = .ok (.iload_n 1, 1) := by decide +kernel
theorem dX10_plan_2 : decode cX10_plan 2 = .ok (.iload_n 2, 1) := by decide +kernel
theorem dX10_plan_3 : decode cX10_plan 3 = .ok (.iload_n 3, 1) := by decide +kernel
theorem dX10_plan_4 : decode cX10_plan 4 = .ok (.iload 4, 2) := by decide +kernel
theorem dX10_plan_6 : decode cX10_plan 6 = .ok (.invokevirtual 239, 3) := by decide +kernel
theorem dX10_plan_9 : decode cX10_plan 9 = .ok (.istore 7, 2) := by decide +kernel
theorem dX10_plan_11 : decode cX10_plan 11 = .ok (.iload 7, 2) := by decide +kernel
theorem dX10_plan_13 : decode cX10_plan 13 = .ok (.ifCond .ge 6, 3) := by decide +kernel
theorem dX10_plan_16 : decode cX10_plan 16 = .ok (.iload 7, 2) := by decide +kernel
theorem dX10_plan_18 : decode cX10_plan 18 = .ok (.ireturn, 1) := by decide +kernel
theorem dX10_plan_19 : decode cX10_plan 19 = .ok (.iload 5, 2) := by decide +kernel
theorem dX10_plan_21 : decode cX10_plan 21 = .ok (.i2l, 1) := by decide +kernel
theorem dX10_plan_22 : decode cX10_plan 22 = .ok (.lconst 0, 1) := by decide +kernel
theorem dX10_plan_23 : decode cX10_plan 23 = .ok (.iload_n 2, 1) := by decide +kernel
theorem dX10_plan_24 : decode cX10_plan 24 = .ok (.i2l, 1) := by decide +kernel
theorem dX10_plan_25 : decode cX10_plan 25 = .ok (.lconst 1, 1) := by decide +kernel
theorem dX10_plan_26 : decode cX10_plan 26 = .ok (.lsub, 1) := by decide +kernel
theorem dX10_plan_27 : decode cX10_plan 27 = .ok (.invokestatic 94, 3) := by decide +kernel
theorem dX10_plan_30 : decode cX10_plan 30 = .ok (.ifCond .eq 25, 3) := by decide +kernel
theorem dX10_plan_33 : decode cX10_plan 33 = .ok (.iload 6, 2) := by decide +kernel
theorem dX10_plan_35 : decode cX10_plan 35 = .ok (.i2l, 1) := by decide +kernel
theorem dX10_plan_36 : decode cX10_plan 36 = .ok (.lconst 0, 1) := by decide +kernel
theorem dX10_plan_37 : decode cX10_plan 37 = .ok (.ldc2_w 92, 3) := by decide +kernel
theorem dX10_plan_40 : decode cX10_plan 40 = .ok (.invokestatic 94, 3) := by decide +kernel
theorem dX10_plan_43 : decode cX10_plan 43 = .ok (.ifCond .eq 12, 3) := by decide +kernel
theorem dX10_plan_46 : decode cX10_plan 46 = .ok (.iload_n 1, 1) := by decide +kernel
theorem dX10_plan_47 : decode cX10_plan 47 = .ok (.iload 6, 2) := by decide +kernel
theorem dX10_plan_49 : decode cX10_plan 49 = .ok (.ishr, 1) := by decide +kernel
theorem dX10_plan_50 : decode cX10_plan 50 = .ok (.iconst 1, 1) := by decide +kernel
theorem dX10_plan_51 : decode cX10_plan 51 = .ok (.iand, 1) := by decide +kernel
theorem dX10_plan_52 : decode cX10_plan 52 = .ok (.ifCond .ne 5, 3) := by decide +kernel
theorem dX10_plan_55 : decode cX10_plan 55 = .ok (.iconst (-1), 1) := by decide +kernel
theorem dX10_plan_56 : decode cX10_plan 56 = .ok (.ireturn, 1) := by decide +kernel
theorem dX10_plan_57 : decode cX10_plan 57 = .ok (.aload_n 0, 1) := by decide +kernel
theorem dX10_plan_58 : decode cX10_plan 58 = .ok (.iload_n 1, 1) := by decide +kernel
theorem dX10_plan_59 : decode cX10_plan 59 = .ok (.iload_n 2, 1) := by decide +kernel
theorem dX10_plan_60 : decode cX10_plan 60 = .ok (.iload_n 3, 1) := by decide +kernel
theorem dX10_plan_61 : decode cX10_plan 61 = .ok (.iload 4, 2) := by decide +kernel
theorem dX10_plan_63 : decode cX10_plan 63 = .ok (.invokevirtual 242, 3) := by decide +kernel
theorem dX10_plan_66 : decode cX10_plan 66 = .ok (.aload_n 0, 1) := by decide +kernel
theorem dX10_plan_67 : decode cX10_plan 67 = .ok (.getfield 62, 3) := by decide +kernel
theorem dX10_plan_70 : decode cX10_plan 70 = .ok (.sipush 17576, 3) := by decide +kernel
theorem dX10_plan_73 : decode cX10_plan 73 = .ok (.iload_n 2, 1) := by decide +kernel
theorem dX10_plan_74 : decode cX10_plan 74 = .ok (.imul, 1) := by decide +kernel
theorem dX10_plan_75 : decode cX10_plan 75 = .ok (.iaload, 1) := by decide +kernel
theorem dX10_plan_76 : decode cX10_plan 76 = .ok (.sipush 1000, 3) := by decide +kernel
theorem dX10_plan_79 : decode cX10_plan 79 = .ok (.if_icmp .lt 6, 3) := by decide +kernel
theorem dX10_plan_82 : decode cX10_plan 82 = .ok (.bipush (-6), 2) := by decide +kernel
theorem dX10_plan_84 : decode cX10_plan 84 = .ok (.ireturn, 1) := by decide +kernel
theorem dX10_plan_85 : decode cX10_plan 85 = .ok (.iconst 0, 1) := by decide +kernel
theorem dX10_plan_86 : decode cX10_plan 86 = .ok (.istore 8, 2) := by decide +kernel
theorem dX10_plan_88 : decode cX10_plan 88 = .ok (.iconst 0, 1) := by decide +kernel
theorem dX10_plan_89 : decode cX10_plan 89 = .ok (.istore 9, 2) := by decide +kernel
theorem dX10_plan_91 : decode cX10_plan 91 = .ok (.iconst 0, 1) := by decide +kernel
theorem dX10_plan_92 : decode cX10_plan 92 = .ok (.istore 10, 2) := by decide +kernel
theorem dX10_plan_94 : decode cX10_plan 94 = .ok (.iload 10, 2) := by decide +kernel
theorem dX10_plan_96 : decode cX10_plan 96 = .ok (.iload 5, 2) := by decide +kernel
theorem dX10_plan_98 : decode cX10_plan 98 = .ok (.if_icmp .gt 51, 3) := by decide +kernel
theorem dX10_plan_101 : decode cX10_plan 101 = .ok (.aload_n 0, 1) := by decide +kernel
theorem dX10_plan_102 : decode cX10_plan 102 = .ok (.iload 8, 2) := by decide +kernel
theorem dX10_plan_104 : decode cX10_plan 104 = .ok (.iload_n 3, 1) := by decide +kernel
theorem dX10_plan_105 : decode cX10_plan 105 = .ok (.iload_n 2, 1) := by decide +kernel
theorem dX10_plan_106 : decode cX10_plan 106 = .ok (.iload 10, 2) := by decide +kernel
theorem dX10_plan_108 : decode cX10_plan 108 = .ok (.isub, 1) := by decide +kernel
theorem dX10_plan_109 : decode cX10_plan 109 = .ok (.invokevirtual 245, 3) := by decide +kernel
theorem dX10_plan_112 : decode cX10_plan 112 = .ok (.istore 9, 2) := by decide +kernel
theorem dX10_plan_114 : decode cX10_plan 114 = .ok (.aload_n 0, 1) := by decide +kernel
theorem dX10_plan_115 : decode cX10_plan 115 = .ok (.iload 8, 2) := by decide +kernel
theorem dX10_plan_117 : decode cX10_plan 117 = .ok (.bipush 26, 2) := by decide +kernel
theorem dX10_plan_119 : decode cX10_plan 119 = .ok (.idiv, 1) := by decide +kernel
theorem dX10_plan_120 : decode cX10_plan 120 = .ok (.bipush 26, 2) := by decide +kernel
theorem dX10_plan_122 : decode cX10_plan 122 = .ok (.idiv, 1) := by decide +kernel
theorem dX10_plan_123 : decode cX10_plan 123 = .ok (.iload 8, 2) := by decide +kernel
theorem dX10_plan_125 : decode cX10_plan 125 = .ok (.bipush 26, 2) := by decide +kernel
theorem dX10_plan_127 : decode cX10_plan 127 = .ok (.idiv, 1) := by decide +kernel
theorem dX10_plan_128 : decode cX10_plan 128 = .ok (.bipush 26, 2) := by decide +kernel
theorem dX10_plan_130 : decode cX10_plan 130 = .ok (.irem, 1) := by decide +kernel
theorem dX10_plan_131 : decode cX10_plan 131 = .ok (.iload 8, 2) := by decide +kernel
theorem dX10_plan_133 : decode cX10_plan 133 = .ok (.bipush 26, 2) := by decide +kernel
theorem dX10_plan_135 : decode cX10_plan 135 = .ok (.irem, 1) := by decide +kernel
theorem dX10_plan_136 : decode cX10_plan 136 = .ok (.iload 9, 2) := by decide +kernel
theorem dX10_plan_138 : decode cX10_plan 138 = .ok (.invokevirtual 218, 3) := by decide +kernel
theorem dX10_plan_141 : decode cX10_plan 141 = .ok (.istore 8, 2) := by decide +kernel
theorem dX10_plan_143 : decode cX10_plan 143 = .ok (.iinc 10 1, 3) := by decide +kernel
theorem dX10_plan_146 : decode cX10_plan 146 = .ok (.goto (-52), 3) := by decide +kernel
theorem dX10_plan_149 : decode cX10_plan 149 = .ok (.aload_n 0, 1) := by decide +kernel
theorem dX10_plan_150 : decode cX10_plan 150 = .ok (.getfield 49, 3) := by decide +kernel
theorem dX10_plan_153 : decode cX10_plan 153 = .ok (.iconst 0, 1) := by decide +kernel
theorem dX10_plan_154 : decode cX10_plan 154 = .ok (.iaload, 1) := by decide +kernel
theorem dX10_plan_155 : decode cX10_plan 155 = .ok (.iload 6, 2) := by decide +kernel
theorem dX10_plan_157 : decode cX10_plan 157 = .ok (.if_icmp .ne 11, 3) := by decide +kernel
theorem dX10_plan_160 : decode cX10_plan 160 = .ok (.iload 9, 2) := by decide +kernel
theorem dX10_plan_162 : decode cX10_plan 162 = .ok (.bipush 9, 2) := by decide +kernel
theorem dX10_plan_164 : decode cX10_plan 164 = .ok (.idiv, 1) := by decide +kernel
theorem dX10_plan_165 : decode cX10_plan 165 = .ok (.goto 27, 3) := by decide +kernel
theorem dX10_plan_168 : decode cX10_plan 168 = .ok (.aload_n 0, 1) := by decide +kernel
theorem dX10_plan_169 : decode cX10_plan 169 = .ok (.getfield 49, 3) := by decide +kernel
theorem dX10_plan_172 : decode cX10_plan 172 = .ok (.iconst 1, 1) := by decide +kernel
theorem dX10_plan_173 : decode cX10_plan 173 = .ok (.iaload, 1) := by decide +kernel
theorem dX10_plan_174 : decode cX10_plan 174 = .ok (.iload 6, 2) := by decide +kernel
theorem dX10_plan_176 : decode cX10_plan 176 = .ok (.if_icmp .ne 12, 3) := by decide +kernel
theorem dX10_plan_179 : decode cX10_plan 179 = .ok (.iload 9, 2) := by decide +kernel
theorem dX10_plan_181 : decode cX10_plan 181 = .ok (.iconst 3, 1) := by decide +kernel
theorem dX10_plan_182 : decode cX10_plan 182 = .ok (.idiv, 1) := by decide +kernel
theorem dX10_plan_183 : decode cX10_plan 183 = .ok (.iconst 3, 1) := by decide +kernel
theorem dX10_plan_184 : decode cX10_plan 184 = .ok (.irem, 1) := by decide +kernel
theorem dX10_plan_185 : decode cX10_plan 185 = .ok (.goto 7, 3) := by decide +kernel
theorem dX10_plan_188 : decode cX10_plan 188 = .ok (.iload 9, 2) := by decide +kernel
theorem dX10_plan_190 : decode cX10_plan 190 = .ok (.iconst 3, 1) := by decide +kernel
theorem dX10_plan_191 : decode cX10_plan 191 = .ok (.irem, 1) := by decide +kernel
theorem dX10_plan_192 : decode cX10_plan 192 = .ok (.ireturn, 1) := by decide +kernel
theorem dX10_isEnvyless_0 : decode cX10_isEnvyless 0 = .ok (.iconst 1, 1) := by decide +kernel
theorem dX10_isEnvyless_1 : decode cX10_isEnvyless 1 = .ok (.istore_n 1, 1) := by decide +kernel
theorem dX10_isEnvyless_2 : decode cX10_isEnvyless 2 = .ok (.iconst 0, 1) := by decide +kernel
theorem dX10_isEnvyless_3 : decode cX10_isEnvyless 3 = .ok (.istore_n 2, 1) := by decide +kernel
theorem dX10_isEnvyless_4 : decode cX10_isEnvyless 4 = .ok (.iload_n 2, 1) := by decide +kernel
theorem dX10_isEnvyless_5 : decode cX10_isEnvyless 5 = .ok (.bipush 6, 2) := by decide +kernel
theorem dX10_isEnvyless_7 : decode cX10_isEnvyless 7 = .ok (.if_icmp .ge 130, 3) := by decide +kernel
theorem dX10_isEnvyless_10 : decode cX10_isEnvyless 10 = .ok (.iconst 0, 1) := by decide +kernel
theorem dX10_isEnvyless_11 : decode cX10_isEnvyless 11 = .ok (.istore_n 3, 1) := by decide +kernel
theorem dX10_isEnvyless_12 : decode cX10_isEnvyless 12 = .ok (.iload_n 3, 1) := by decide +kernel
theorem dX10_isEnvyless_13 : decode cX10_isEnvyless 13 = .ok (.bipush 6, 2) := by decide +kernel
theorem dX10_isEnvyless_15 : decode cX10_isEnvyless 15 = .ok (.if_icmp .ge 116, 3) := by decide +kernel
theorem dX10_isEnvyless_18 : decode cX10_isEnvyless 18 = .ok (.iload_n 2, 1) := by decide +kernel
theorem dX10_isEnvyless_19 : decode cX10_isEnvyless 19 = .ok (.iload_n 3, 1) := by decide +kernel
theorem dX10_isEnvyless_20 : decode cX10_isEnvyless 20 = .ok (.if_icmp .eq 38, 3) := by decide +kernel
theorem dX10_isEnvyless_23 : decode cX10_isEnvyless 23 = .ok (.aload_n 0, 1) := by decide +kernel
theorem dX10_isEnvyless_24 : decode cX10_isEnvyless 24 = .ok (.iload_n 2, 1) := by decide +kernel
theorem dX10_isEnvyless_25 : decode cX10_isEnvyless 25 = .ok (.invokevirtual 109, 3) := by decide +kernel
theorem dX10_isEnvyless_28 : decode cX10_isEnvyless 28 = .ok (.ifCond .eq 30, 3) := by decide +kernel
theorem dX10_isEnvyless_31 : decode cX10_isEnvyless 31 = .ok (.aload_n 0, 1) := by decide +kernel
theorem dX10_isEnvyless_32 : decode cX10_isEnvyless 32 = .ok (.iload_n 3, 1) := by decide +kernel
theorem dX10_isEnvyless_33 : decode cX10_isEnvyless 33 = .ok (.invokevirtual 109, 3) := by decide +kernel
theorem dX10_isEnvyless_36 : decode cX10_isEnvyless 36 = .ok (.ifCond .eq 22, 3) := by decide +kernel
theorem dX10_isEnvyless_39 : decode cX10_isEnvyless 39 = .ok (.aload_n 0, 1) := by decide +kernel
theorem dX10_isEnvyless_40 : decode cX10_isEnvyless 40 = .ok (.getfield 7, 3) := by decide +kernel
theorem dX10_isEnvyless_43 : decode cX10_isEnvyless 43 = .ok (.iload_n 3, 1) := by decide +kernel
theorem dX10_isEnvyless_44 : decode cX10_isEnvyless 44 = .ok (.iaload, 1) := by decide +kernel
theorem dX10_isEnvyless_45 : decode cX10_isEnvyless 45 = .ok (.aload_n 0, 1) := by decide +kernel
theorem dX10_isEnvyless_46 : decode cX10_isEnvyless 46 = .ok (.getfield 7, 3) := by decide +kernel
theorem dX10_isEnvyless_49 : decode cX10_isEnvyless 49 = .ok (.iload_n 2, 1) := by decide +kernel
theorem dX10_isEnvyless_50 : decode cX10_isEnvyless 50 = .ok (.iaload, 1) := by decide +kernel
theorem dX10_isEnvyless_51 : decode cX10_isEnvyless 51 = .ok (.if_icmp .lt 7, 3) := by decide +kernel
theorem dX10_isEnvyless_54 : decode cX10_isEnvyless 54 = .ok (.iconst 1, 1) := by decide +kernel
theorem dX10_isEnvyless_55 : decode cX10_isEnvyless 55 = .ok (.goto 4, 3) := by decide +kernel
theorem dX10_isEnvyless_58 : decode cX10_isEnvyless 58 = .ok (.iconst 0, 1) := by decide +kernel
theorem dX10_isEnvyless_59 : decode cX10_isEnvyless 59 = .ok (.istore 4, 2) := by decide +kernel
theorem dX10_isEnvyless_61 : decode cX10_isEnvyless 61 = .ok (.iload 4, 2) := by decide +kernel
theorem dX10_isEnvyless_63 : decode cX10_isEnvyless 63 = .ok (.ifCond .eq 44, 3) := by decide +kernel
theorem dX10_isEnvyless_66 : decode cX10_isEnvyless 66 = .ok (.aload_n 0, 1) := by decide +kernel
theorem dX10_isEnvyless_67 : decode cX10_isEnvyless 67 = .ok (.iload_n 2, 1) := by decide +kernel
theorem dX10_isEnvyless_68 : decode cX10_isEnvyless 68 = .ok (.aload_n 0, 1) := by decide +kernel
theorem dX10_isEnvyless_69 : decode cX10_isEnvyless 69 = .ok (.getfield 7, 3) := by decide +kernel
theorem dX10_isEnvyless_72 : decode cX10_isEnvyless 72 = .ok (.iload_n 2, 1) := by decide +kernel
theorem dX10_isEnvyless_73 : decode cX10_isEnvyless 73 = .ok (.iaload, 1) := by decide +kernel
theorem dX10_isEnvyless_74 : decode cX10_isEnvyless 74 = .ok (.aload_n 0, 1) := by decide +kernel
theorem dX10_isEnvyless_75 : decode cX10_isEnvyless 75 = .ok (.getfield 68, 3) := by decide +kernel
theorem dX10_isEnvyless_78 : decode cX10_isEnvyless 78 = .ok (.iload_n 2, 1) := by decide +kernel
theorem dX10_isEnvyless_79 : decode cX10_isEnvyless 79 = .ok (.iaload, 1) := by decide +kernel
theorem dX10_isEnvyless_80 : decode cX10_isEnvyless 80 = .ok (.invokevirtual 147, 3) := by decide +kernel
theorem dX10_isEnvyless_83 : decode cX10_isEnvyless 83 = .ok (.aload_n 0, 1) := by decide +kernel
theorem dX10_isEnvyless_84 : decode cX10_isEnvyless 84 = .ok (.iload_n 3, 1) := by decide +kernel
theorem dX10_isEnvyless_85 : decode cX10_isEnvyless 85 = .ok (.aload_n 0, 1) := by decide +kernel
theorem dX10_isEnvyless_86 : decode cX10_isEnvyless 86 = .ok (.getfield 7, 3) := by decide +kernel
theorem dX10_isEnvyless_89 : decode cX10_isEnvyless 89 = .ok (.iload_n 3, 1) := by decide +kernel
theorem dX10_isEnvyless_90 : decode cX10_isEnvyless 90 = .ok (.iaload, 1) := by decide +kernel
theorem dX10_isEnvyless_91 : decode cX10_isEnvyless 91 = .ok (.aload_n 0, 1) := by decide +kernel
theorem dX10_isEnvyless_92 : decode cX10_isEnvyless 92 = .ok (.getfield 68, 3) := by decide +kernel
theorem dX10_isEnvyless_95 : decode cX10_isEnvyless 95 = .ok (.iload_n 3, 1) := by decide +kernel
theorem dX10_isEnvyless_96 : decode cX10_isEnvyless 96 = .ok (.iaload, 1) := by decide +kernel
theorem dX10_isEnvyless_97 : decode cX10_isEnvyless 97 = .ok (.invokevirtual 147, 3) := by decide +kernel
theorem dX10_isEnvyless_100 : decode cX10_isEnvyless 100 = .ok (.if_icmp .le 7, 3) := by decide +kernel
theorem dX10_isEnvyless_103 : decode cX10_isEnvyless 103 = .ok (.iconst 1, 1) := by decide +kernel
theorem dX10_isEnvyless_104 : decode cX10_isEnvyless 104 = .ok (.goto 4, 3) := by decide +kernel
theorem dX10_isEnvyless_107 : decode cX10_isEnvyless 107 = .ok (.iconst 0, 1) := by decide +kernel
theorem dX10_isEnvyless_108 : decode cX10_isEnvyless 108 = .ok (.istore 5, 2) := by decide +kernel
theorem dX10_isEnvyless_110 : decode cX10_isEnvyless 110 = .ok (.iload_n 1, 1) := by decide +kernel
theorem dX10_isEnvyless_111 : decode cX10_isEnvyless 111 = .ok (.ifCond .eq 12, 3) := by decide +kernel
theorem dX10_isEnvyless_114 : decode cX10_isEnvyless 114 = .ok (.iload 5, 2) := by decide +kernel
theorem dX10_isEnvyless_116 : decode cX10_isEnvyless 116 = .ok (.ifCond .ne 7, 3) := by decide +kernel
theorem dX10_isEnvyless_119 : decode cX10_isEnvyless 119 = .ok (.iconst 1, 1) := by decide +kernel
theorem dX10_isEnvyless_120 : decode cX10_isEnvyless 120 = .ok (.goto 4, 3) := by decide +kernel
theorem dX10_isEnvyless_123 : decode cX10_isEnvyless 123 = .ok (.iconst 0, 1) := by decide +kernel
theorem dX10_isEnvyless_124 : decode cX10_isEnvyless 124 = .ok (.istore_n 1, 1) := by decide +kernel
theorem dX10_isEnvyless_125 : decode cX10_isEnvyless 125 = .ok (.iinc 3 1, 3) := by decide +kernel
theorem dX10_isEnvyless_128 : decode cX10_isEnvyless 128 = .ok (.goto (-116), 3) := by decide +kernel
theorem dX10_isEnvyless_131 : decode cX10_isEnvyless 131 = .ok (.iinc 2 1, 3) := by decide +kernel
theorem dX10_isEnvyless_134 : decode cX10_isEnvyless 134 = .ok (.goto (-130), 3) := by decide +kernel
theorem dX10_isEnvyless_137 : decode cX10_isEnvyless 137 = .ok (.iload_n 1, 1) := by decide +kernel
theorem dX10_isEnvyless_138 : decode cX10_isEnvyless 138 = .ok (.ireturn, 1) := by decide +kernel
theorem dX10_shareOf_0 : decode cX10_shareOf 0 = .ok (.iload_n 1, 1) := by decide +kernel
theorem dX10_shareOf_1 : decode cX10_shareOf 1 = .ok (.istore_n 3, 1) := by decide +kernel
theorem dX10_shareOf_2 : decode cX10_shareOf 2 = .ok (.iconst 0, 1) := by decide +kernel
theorem dX10_shareOf_3 : decode cX10_shareOf 3 = .ok (.istore 4, 2) := by decide +kernel
theorem dX10_shareOf_5 : decode cX10_shareOf 5 = .ok (.iconst 0, 1) := by decide +kernel
theorem dX10_shareOf_6 : decode cX10_shareOf 6 = .ok (.istore 5, 2) := by decide +kernel
theorem dX10_shareOf_8 : decode cX10_shareOf 8 = .ok (.iconst 1, 1) := by decide +kernel
theorem dX10_shareOf_9 : decode cX10_shareOf 9 = .ok (.istore 6, 2) := by decide +kernel
theorem dX10_shareOf_11 : decode cX10_shareOf 11 = .ok (.iconst 5, 1) := by decide +kernel
theorem dX10_shareOf_12 : decode cX10_shareOf 12 = .ok (.istore 7, 2) := by decide +kernel
theorem dX10_shareOf_14 : decode cX10_shareOf 14 = .ok (.iload 7, 2) := by decide +kernel
theorem dX10_shareOf_16 : decode cX10_shareOf 16 = .ok (.ifCond .lt 92, 3) := by decide +kernel
theorem dX10_shareOf_19 : decode cX10_shareOf 19 = .ok (.aload_n 0, 1) := by decide +kernel
theorem dX10_shareOf_20 : decode cX10_shareOf 20 = .ok (.getfield 68, 3) := by decide +kernel
theorem dX10_shareOf_23 : decode cX10_shareOf 23 = .ok (.iload 7, 2) := by decide +kernel
theorem dX10_shareOf_25 : decode cX10_shareOf 25 = .ok (.iload_n 3, 1) := by decide +kernel
theorem dX10_shareOf_26 : decode cX10_shareOf 26 = .ok (.iconst 3, 1) := by decide +kernel
theorem dX10_shareOf_27 : decode cX10_shareOf 27 = .ok (.irem, 1) := by decide +kernel
theorem dX10_shareOf_28 : decode cX10_shareOf 28 = .ok (.iastore, 1) := by decide +kernel
theorem dX10_shareOf_29 : decode cX10_shareOf 29 = .ok (.iload_n 3, 1) := by decide +kernel
theorem dX10_shareOf_30 : decode cX10_shareOf 30 = .ok (.iconst 3, 1) := by decide +kernel
theorem dX10_shareOf_31 : decode cX10_shareOf 31 = .ok (.idiv, 1) := by decide +kernel
theorem dX10_shareOf_32 : decode cX10_shareOf 32 = .ok (.istore_n 3, 1) := by decide +kernel
theorem dX10_shareOf_33 : decode cX10_shareOf 33 = .ok (.aload_n 0, 1) := by decide +kernel
theorem dX10_shareOf_34 : decode cX10_shareOf 34 = .ok (.iload 7, 2) := by decide +kernel
theorem dX10_shareOf_36 : decode cX10_shareOf 36 = .ok (.invokevirtual 109, 3) := by decide +kernel
theorem dX10_shareOf_39 : decode cX10_shareOf 39 = .ok (.ifCond .ne 16, 3) := by decide +kernel
theorem dX10_shareOf_42 : decode cX10_shareOf 42 = .ok (.aload_n 0, 1) := by decide +kernel
theorem dX10_shareOf_43 : decode cX10_shareOf 43 = .ok (.getfield 68, 3) := by decide +kernel
theorem dX10_shareOf_46 : decode cX10_shareOf 46 = .ok (.iload 7, 2) := by decide +kernel
theorem dX10_shareOf_48 : decode cX10_shareOf 48 = .ok (.iaload, 1) := by decide +kernel
theorem dX10_shareOf_49 : decode cX10_shareOf 49 = .ok (.ifCond .le 6, 3) := by decide +kernel
theorem dX10_shareOf_52 : decode cX10_shareOf 52 = .ok (.bipush (-6), 2) := by decide +kernel
theorem dX10_shareOf_54 : decode cX10_shareOf 54 = .ok (.ireturn, 1) := by decide +kernel
theorem dX10_shareOf_55 : decode cX10_shareOf 55 = .ok (.iload 4, 2) := by decide +kernel
theorem dX10_shareOf_57 : decode cX10_shareOf 57 = .ok (.aload_n 0, 1) := by decide +kernel
theorem dX10_shareOf_58 : decode cX10_shareOf 58 = .ok (.getfield 68, 3) := by decide +kernel
theorem dX10_shareOf_61 : decode cX10_shareOf 61 = .ok (.iload 7, 2) := by decide +kernel
theorem dX10_shareOf_63 : decode cX10_shareOf 63 = .ok (.iaload, 1) := by decide +kernel
theorem dX10_shareOf_64 : decode cX10_shareOf 64 = .ok (.iadd, 1) := by decide +kernel
theorem dX10_shareOf_65 : decode cX10_shareOf 65 = .ok (.istore 4, 2) := by decide +kernel
theorem dX10_shareOf_67 : decode cX10_shareOf 67 = .ok (.iload 5, 2) := by decide +kernel
theorem dX10_shareOf_69 : decode cX10_shareOf 69 = .ok (.iload 6, 2) := by decide +kernel
theorem dX10_shareOf_71 : decode cX10_shareOf 71 = .ok (.aload_n 0, 1) := by decide +kernel
theorem dX10_shareOf_72 : decode cX10_shareOf 72 = .ok (.iload 7, 2) := by decide +kernel
theorem dX10_shareOf_74 : decode cX10_shareOf 74 = .ok (.invokevirtual 109, 3) := by decide +kernel
theorem dX10_shareOf_77 : decode cX10_shareOf 77 = .ok (.ifCond .eq 13, 3) := by decide +kernel
theorem dX10_shareOf_80 : decode cX10_shareOf 80 = .ok (.aload_n 0, 1) := by decide +kernel
theorem dX10_shareOf_81 : decode cX10_shareOf 81 = .ok (.getfield 68, 3) := by decide +kernel
theorem dX10_shareOf_84 : decode cX10_shareOf 84 = .ok (.iload 7, 2) := by decide +kernel
theorem dX10_shareOf_86 : decode cX10_shareOf 86 = .ok (.iaload, 1) := by decide +kernel
theorem dX10_shareOf_87 : decode cX10_shareOf 87 = .ok (.goto 4, 3) := by decide +kernel
theorem dX10_shareOf_90 : decode cX10_shareOf 90 = .ok (.iconst 3, 1) := by decide +kernel
theorem dX10_shareOf_91 : decode cX10_shareOf 91 = .ok (.imul, 1) := by decide +kernel
theorem dX10_shareOf_92 : decode cX10_shareOf 92 = .ok (.iadd, 1) := by decide +kernel
theorem dX10_shareOf_93 : decode cX10_shareOf 93 = .ok (.istore 5, 2) := by decide +kernel
theorem dX10_shareOf_95 : decode cX10_shareOf 95 = .ok (.iload 6, 2) := by decide +kernel
theorem dX10_shareOf_97 : decode cX10_shareOf 97 = .ok (.bipush 10, 2) := by decide +kernel
theorem dX10_shareOf_99 : decode cX10_shareOf 99 = .ok (.imul, 1) := by decide +kernel
theorem dX10_shareOf_100 : decode cX10_shareOf 100 = .ok (.istore 6, 2) := by decide +kernel
theorem dX10_shareOf_102 : decode cX10_shareOf 102 = .ok (.iinc 7 (-1), 3) := by decide +kernel
theorem dX10_shareOf_105 : decode cX10_shareOf 105 = .ok (.goto (-91), 3) := by decide +kernel
theorem dX10_shareOf_108 : decode cX10_shareOf 108 = .ok (.iload 4, 2) := by decide +kernel
theorem dX10_shareOf_110 : decode cX10_shareOf 110 = .ok (.iload_n 2, 1) := by decide +kernel
theorem dX10_shareOf_111 : decode cX10_shareOf 111 = .ok (.if_icmp .ne 15, 3) := by decide +kernel
theorem dX10_shareOf_114 : decode cX10_shareOf 114 = .ok (.aload_n 0, 1) := by decide +kernel
theorem dX10_shareOf_115 : decode cX10_shareOf 115 = .ok (.invokevirtual 248, 3) := by decide +kernel
theorem dX10_shareOf_118 : decode cX10_shareOf 118 = .ok (.ifCond .eq 8, 3) := by decide +kernel
theorem dX10_shareOf_121 : decode cX10_shareOf 121 = .ok (.iload 5, 2) := by decide +kernel
theorem dX10_shareOf_123 : decode cX10_shareOf 123 = .ok (.goto 5, 3) := by decide +kernel
theorem dX10_shareOf_126 : decode cX10_shareOf 126 = .ok (.bipush (-6), 2) := by decide +kernel
theorem dX10_shareOf_128 : decode cX10_shareOf 128 = .ok (.ireturn, 1) := by decide +kernel
theorem dX10_envy_0 : decode cX10_envy 0 = .ok (.iload_n 1, 1) := by decide +kernel
theorem dX10_envy_1 : decode cX10_envy 1 = .ok (.i2l, 1) := by decide +kernel
theorem dX10_envy_2 : decode cX10_envy 2 = .ok (.lconst 0, 1) := by decide +kernel
theorem dX10_envy_3 : decode cX10_envy 3 = .ok (.ldc2_w 252, 3) := by decide +kernel
theorem dX10_envy_6 : decode cX10_envy 6 = .ok (.invokestatic 94, 3) := by decide +kernel
theorem dX10_envy_9 : decode cX10_envy 9 = .ok (.ifCond .eq 13, 3) := by decide +kernel
theorem dX10_envy_12 : decode cX10_envy 12 = .ok (.iload_n 2, 1) := by decide +kernel
theorem dX10_envy_13 : decode cX10_envy 13 = .ok (.i2l, 1) := by decide +kernel
theorem dX10_envy_14 : decode cX10_envy 14 = .ok (.lconst 0, 1) := by decide +kernel
theorem dX10_envy_15 : decode cX10_envy 15 = .ok (.lconst 1, 1) := by decide +kernel
theorem dX10_envy_16 : decode cX10_envy 16 = .ok (.invokestatic 94, 3) := by decide +kernel
theorem dX10_envy_19 : decode cX10_envy 19 = .ok (.ifCond .ne 6, 3) := by decide +kernel
theorem dX10_envy_22 : decode cX10_envy 22 = .ok (.bipush (-2), 2) := by decide +kernel
theorem dX10_envy_24 : decode cX10_envy 24 = .ok (.ireturn, 1) := by decide +kernel
theorem dX10_envy_25 : decode cX10_envy 25 = .ok (.iconst 0, 1) := by decide +kernel
theorem dX10_envy_26 : decode cX10_envy 26 = .ok (.istore_n 3, 1) := by decide +kernel
theorem dX10_envy_27 : decode cX10_envy 27 = .ok (.bipush (-6), 2) := by decide +kernel
theorem dX10_envy_29 : decode cX10_envy 29 = .ok (.istore 4, 2) := by decide +kernel
theorem dX10_envy_31 : decode cX10_envy 31 = .ok (.sipush 728, 3) := by decide +kernel
theorem dX10_envy_34 : decode cX10_envy 34 = .ok (.istore 5, 2) := by decide +kernel
theorem dX10_envy_36 : decode cX10_envy 36 = .ok (.iload 5, 2) := by decide +kernel
theorem dX10_envy_38 : decode cX10_envy 38 = .ok (.ifCond .lt 45, 3) := by decide +kernel
theorem dX10_envy_41 : decode cX10_envy 41 = .ok (.aload_n 0, 1) := by decide +kernel
theorem dX10_envy_42 : decode cX10_envy 42 = .ok (.iload 5, 2) := by decide +kernel
theorem dX10_envy_44 : decode cX10_envy 44 = .ok (.iload_n 1, 1) := by decide +kernel
theorem dX10_envy_45 : decode cX10_envy 45 = .ok (.invokevirtual 254, 3) := by decide +kernel
theorem dX10_envy_48 : decode cX10_envy 48 = .ok (.istore 6, 2) := by decide +kernel
theorem dX10_envy_50 : decode cX10_envy 50 = .ok (.iload_n 3, 1) := by decide +kernel
theorem dX10_envy_51 : decode cX10_envy 51 = .ok (.iload 6, 2) := by decide +kernel
theorem dX10_envy_53 : decode cX10_envy 53 = .ok (.ifCond .lt 7, 3) := by decide +kernel
theorem dX10_envy_56 : decode cX10_envy 56 = .ok (.iconst 1, 1) := by decide +kernel
theorem dX10_envy_57 : decode cX10_envy 57 = .ok (.goto 4, 3) := by decide +kernel
theorem dX10_envy_60 : decode cX10_envy 60 = .ok (.iconst 0, 1) := by decide +kernel
theorem dX10_envy_61 : decode cX10_envy 61 = .ok (.iadd, 1) := by decide +kernel
theorem dX10_envy_62 : decode cX10_envy 62 = .ok (.istore_n 3, 1) := by decide +kernel
theorem dX10_envy_63 : decode cX10_envy 63 = .ok (.iload 6, 2) := by decide +kernel
theorem dX10_envy_65 : decode cX10_envy 65 = .ok (.ifCond .lt 8, 3) := by decide +kernel
theorem dX10_envy_68 : decode cX10_envy 68 = .ok (.iload 6, 2) := by decide +kernel
theorem dX10_envy_70 : decode cX10_envy 70 = .ok (.goto 5, 3) := by decide +kernel
theorem dX10_envy_73 : decode cX10_envy 73 = .ok (.iload 4, 2) := by decide +kernel
theorem dX10_envy_75 : decode cX10_envy 75 = .ok (.istore 4, 2) := by decide +kernel
theorem dX10_envy_77 : decode cX10_envy 77 = .ok (.iinc 5 (-1), 3) := by decide +kernel
theorem dX10_envy_80 : decode cX10_envy 80 = .ok (.goto (-44), 3) := by decide +kernel
theorem dX10_envy_83 : decode cX10_envy 83 = .ok (.iload_n 2, 1) := by decide +kernel
theorem dX10_envy_84 : decode cX10_envy 84 = .ok (.ifCond .ne 7, 3) := by decide +kernel
theorem dX10_envy_87 : decode cX10_envy 87 = .ok (.iload_n 3, 1) := by decide +kernel
theorem dX10_envy_88 : decode cX10_envy 88 = .ok (.goto 5, 3) := by decide +kernel
theorem dX10_envy_91 : decode cX10_envy 91 = .ok (.iload 4, 2) := by decide +kernel
theorem dX10_envy_93 : decode cX10_envy 93 = .ok (.ireturn, 1) := by decide +kernel
theorem dX10_refuses_0 : decode cX10_refuses 0 = .ok (.iload_n 1, 1) := by decide +kernel
theorem dX10_refuses_1 : decode cX10_refuses 1 = .ok (.i2l, 1) := by decide +kernel
theorem dX10_refuses_2 : decode cX10_refuses 2 = .ok (.lconst 0, 1) := by decide +kernel
theorem dX10_refuses_3 : decode cX10_refuses 3 = .ok (.ldc2_w 257, 3) := by decide +kernel
theorem dX10_refuses_6 : decode cX10_refuses 6 = .ok (.invokestatic 94, 3) := by decide +kernel
theorem dX10_refuses_9 : decode cX10_refuses 9 = .ok (.ifCond .ne 6, 3) := by decide +kernel
theorem dX10_refuses_12 : decode cX10_refuses 12 = .ok (.bipush (-2), 2) := by decide +kernel
theorem dX10_refuses_14 : decode cX10_refuses 14 = .ok (.ireturn, 1) := by decide +kernel
theorem dX10_refuses_15 : decode cX10_refuses 15 = .ok (.iconst 0, 1) := by decide +kernel
theorem dX10_refuses_16 : decode cX10_refuses 16 = .ok (.istore_n 2, 1) := by decide +kernel
theorem dX10_refuses_17 : decode cX10_refuses 17 = .ok (.iconst 0, 1) := by decide +kernel
theorem dX10_refuses_18 : decode cX10_refuses 18 = .ok (.istore_n 3, 1) := by decide +kernel
theorem dX10_refuses_19 : decode cX10_refuses 19 = .ok (.iload_n 3, 1) := by decide +kernel
theorem dX10_refuses_20 : decode cX10_refuses 20 = .ok (.bipush 6, 2) := by decide +kernel
theorem dX10_refuses_22 : decode cX10_refuses 22 = .ok (.if_icmp .ge 121, 3) := by decide +kernel
theorem dX10_refuses_25 : decode cX10_refuses 25 = .ok (.aload_n 0, 1) := by decide +kernel
theorem dX10_refuses_26 : decode cX10_refuses 26 = .ok (.getfield 7, 3) := by decide +kernel
theorem dX10_refuses_29 : decode cX10_refuses 29 = .ok (.iload_n 3, 1) := by decide +kernel
theorem dX10_refuses_30 : decode cX10_refuses 30 = .ok (.iaload, 1) := by decide +kernel
theorem dX10_refuses_31 : decode cX10_refuses 31 = .ok (.iload_n 1, 1) := by decide +kernel
theorem dX10_refuses_32 : decode cX10_refuses 32 = .ok (.aload_n 0, 1) := by decide +kernel
theorem dX10_refuses_33 : decode cX10_refuses 33 = .ok (.getfield 13, 3) := by decide +kernel
theorem dX10_refuses_36 : decode cX10_refuses 36 = .ok (.iload_n 3, 1) := by decide +kernel
theorem dX10_refuses_37 : decode cX10_refuses 37 = .ok (.iaload, 1) := by decide +kernel
theorem dX10_refuses_38 : decode cX10_refuses 38 = .ok (.imul, 1) := by decide +kernel
theorem dX10_refuses_39 : decode cX10_refuses 39 = .ok (.iadd, 1) := by decide +kernel
theorem dX10_refuses_40 : decode cX10_refuses 40 = .ok (.bipush 99, 2) := by decide +kernel
theorem dX10_refuses_42 : decode cX10_refuses 42 = .ok (.if_icmp .ge 21, 3) := by decide +kernel
theorem dX10_refuses_45 : decode cX10_refuses 45 = .ok (.aload_n 0, 1) := by decide +kernel
theorem dX10_refuses_46 : decode cX10_refuses 46 = .ok (.getfield 7, 3) := by decide +kernel
theorem dX10_refuses_49 : decode cX10_refuses 49 = .ok (.iload_n 3, 1) := by decide +kernel
theorem dX10_refuses_50 : decode cX10_refuses 50 = .ok (.iaload, 1) := by decide +kernel
theorem dX10_refuses_51 : decode cX10_refuses 51 = .ok (.iload_n 1, 1) := by decide +kernel
theorem dX10_refuses_52 : decode cX10_refuses 52 = .ok (.aload_n 0, 1) := by decide +kernel
theorem dX10_refuses_53 : decode cX10_refuses 53 = .ok (.getfield 13, 3) := by decide +kernel
theorem dX10_refuses_56 : decode cX10_refuses 56 = .ok (.iload_n 3, 1) := by decide +kernel
theorem dX10_refuses_57 : decode cX10_refuses 57 = .ok (.iaload, 1) := by decide +kernel
theorem dX10_refuses_58 : decode cX10_refuses 58 = .ok (.imul, 1) := by decide +kernel
theorem dX10_refuses_59 : decode cX10_refuses 59 = .ok (.iadd, 1) := by decide +kernel
theorem dX10_refuses_60 : decode cX10_refuses 60 = .ok (.goto 5, 3) := by decide +kernel
theorem dX10_refuses_63 : decode cX10_refuses 63 = .ok (.bipush 99, 2) := by decide +kernel
theorem dX10_refuses_65 : decode cX10_refuses 65 = .ok (.istore 4, 2) := by decide +kernel
theorem dX10_refuses_67 : decode cX10_refuses 67 = .ok (.aload_n 0, 1) := by decide +kernel
theorem dX10_refuses_68 : decode cX10_refuses 68 = .ok (.getfield 7, 3) := by decide +kernel
theorem dX10_refuses_71 : decode cX10_refuses 71 = .ok (.iload_n 3, 1) := by decide +kernel
theorem dX10_refuses_72 : decode cX10_refuses 72 = .ok (.iaload, 1) := by decide +kernel
theorem dX10_refuses_73 : decode cX10_refuses 73 = .ok (.iload_n 1, 1) := by decide +kernel
theorem dX10_refuses_74 : decode cX10_refuses 74 = .ok (.aload_n 0, 1) := by decide +kernel
theorem dX10_refuses_75 : decode cX10_refuses 75 = .ok (.getfield 13, 3) := by decide +kernel
theorem dX10_refuses_78 : decode cX10_refuses 78 = .ok (.iload_n 3, 1) := by decide +kernel
theorem dX10_refuses_79 : decode cX10_refuses 79 = .ok (.iaload, 1) := by decide +kernel
theorem dX10_refuses_80 : decode cX10_refuses 80 = .ok (.imul, 1) := by decide +kernel
theorem dX10_refuses_81 : decode cX10_refuses 81 = .ok (.isub, 1) := by decide +kernel
theorem dX10_refuses_82 : decode cX10_refuses 82 = .ok (.aload_n 0, 1) := by decide +kernel
theorem dX10_refuses_83 : decode cX10_refuses 83 = .ok (.getfield 16, 3) := by decide +kernel
theorem dX10_refuses_86 : decode cX10_refuses 86 = .ok (.iload_n 3, 1) := by decide +kernel
theorem dX10_refuses_87 : decode cX10_refuses 87 = .ok (.iaload, 1) := by decide +kernel
theorem dX10_refuses_88 : decode cX10_refuses 88 = .ok (.if_icmp .le 21, 3) := by decide +kernel
theorem dX10_refuses_91 : decode cX10_refuses 91 = .ok (.aload_n 0, 1) := by decide +kernel
theorem dX10_refuses_92 : decode cX10_refuses 92 = .ok (.getfield 7, 3) := by decide +kernel
theorem dX10_refuses_95 : decode cX10_refuses 95 = .ok (.iload_n 3, 1) := by decide +kernel
theorem dX10_refuses_96 : decode cX10_refuses 96 = .ok (.iaload, 1) := by decide +kernel
theorem dX10_refuses_97 : decode cX10_refuses 97 = .ok (.iload_n 1, 1) := by decide +kernel
theorem dX10_refuses_98 : decode cX10_refuses 98 = .ok (.aload_n 0, 1) := by decide +kernel
theorem dX10_refuses_99 : decode cX10_refuses 99 = .ok (.getfield 13, 3) := by decide +kernel
theorem dX10_refuses_102 : decode cX10_refuses 102 = .ok (.iload_n 3, 1) := by decide +kernel
theorem dX10_refuses_103 : decode cX10_refuses 103 = .ok (.iaload, 1) := by decide +kernel
theorem dX10_refuses_104 : decode cX10_refuses 104 = .ok (.imul, 1) := by decide +kernel
theorem dX10_refuses_105 : decode cX10_refuses 105 = .ok (.isub, 1) := by decide +kernel
theorem dX10_refuses_106 : decode cX10_refuses 106 = .ok (.goto 9, 3) := by decide +kernel
theorem dX10_refuses_109 : decode cX10_refuses 109 = .ok (.aload_n 0, 1) := by decide +kernel
theorem dX10_refuses_110 : decode cX10_refuses 110 = .ok (.getfield 16, 3) := by decide +kernel
theorem dX10_refuses_113 : decode cX10_refuses 113 = .ok (.iload_n 3, 1) := by decide +kernel
theorem dX10_refuses_114 : decode cX10_refuses 114 = .ok (.iaload, 1) := by decide +kernel
theorem dX10_refuses_115 : decode cX10_refuses 115 = .ok (.istore 5, 2) := by decide +kernel
theorem dX10_refuses_117 : decode cX10_refuses 117 = .ok (.iload_n 2, 1) := by decide +kernel
theorem dX10_refuses_118 : decode cX10_refuses 118 = .ok (.aload_n 0, 1) := by decide +kernel
theorem dX10_refuses_119 : decode cX10_refuses 119 = .ok (.iload_n 3, 1) := by decide +kernel
theorem dX10_refuses_120 : decode cX10_refuses 120 = .ok (.invokevirtual 109, 3) := by decide +kernel
theorem dX10_refuses_123 : decode cX10_refuses 123 = .ok (.ifCond .eq 11, 3) := by decide +kernel
theorem dX10_refuses_126 : decode cX10_refuses 126 = .ok (.iload 4, 2) := by decide +kernel
theorem dX10_refuses_128 : decode cX10_refuses 128 = .ok (.iload 5, 2) := by decide +kernel
theorem dX10_refuses_130 : decode cX10_refuses 130 = .ok (.isub, 1) := by decide +kernel
theorem dX10_refuses_131 : decode cX10_refuses 131 = .ok (.goto 4, 3) := by decide +kernel
theorem dX10_refuses_134 : decode cX10_refuses 134 = .ok (.iconst 0, 1) := by decide +kernel
theorem dX10_refuses_135 : decode cX10_refuses 135 = .ok (.iadd, 1) := by decide +kernel
theorem dX10_refuses_136 : decode cX10_refuses 136 = .ok (.istore_n 2, 1) := by decide +kernel
theorem dX10_refuses_137 : decode cX10_refuses 137 = .ok (.iinc 3 1, 3) := by decide +kernel
theorem dX10_refuses_140 : decode cX10_refuses 140 = .ok (.goto (-121), 3) := by decide +kernel
theorem dX10_refuses_143 : decode cX10_refuses 143 = .ok (.iload_n 2, 1) := by decide +kernel
theorem dX10_refuses_144 : decode cX10_refuses 144 = .ok (.ireturn, 1) := by decide +kernel
theorem b_X10_basket_0 {l : Launch} {z d : Nat} {X : jX} {M : Nat → Int → Int} {Q : Option jV → jM → Prop}    (k1 : J l z X (d + 6) mX10_refusal (0, 0) 0 [jR 96] [] (jG, M) (fun r μ => J l z X (d + 7) mX10_basket (0, 0) 4 [jR 96, jN] (r.toList ++ []) μ Q)) : J l z X (d + 7) mX10_basket (0, 0) 0 [jR 96, jN] [] (jG, M) Q :=
  (J_aload_n dX10_basket_0 rfl (J_callV (a1 := (0, 0)) (a2 := (0, 0)) (mm' := mX10_refusal) (S := []) [] md_X10_refusal im_X10_refusal se_X10_refusal dX10_basket_1 wm_X10_199 jcl_X10.1 rfl g_96 rfl rfl (Nat.le_of_ble_eq_true rfl) (Nat.le_of_ble_eq_true rfl) rfl k1))
theorem b_X10_basket_4 {l : Launch} {z d : Nat} {X : jX} {M : Nat → Int → Int} {Q : Option jV → jM → Prop} {t0 : Int}   (k1 : t0 = (-6) → J l z X (d + 7) mX10_basket (0, 0) 20 [jR 96, jI t0] [jI (M 96 1), jR 96] (jG, M) Q) (k2 : t0 ≠ (-6) → J l z X (d + 7) mX10_basket (0, 0) 20 [jR 96, jI t0] [jI t0, jR 96] (jG, M) Q) : J l z X (d + 7) mX10_basket (0, 0) 4 [jR 96, jN] [jI t0] (jG, M) Q :=
  (J_istore_n dX10_basket_4 (Nat.le_of_ble_eq_true rfl) (J_aload_n dX10_basket_5 rfl (J_iload_n dX10_basket_6 rfl (J_bipush dX10_basket_7 jc_m6 jb_m6 (J_icmp_eq dX10_basket_9 (tgt := 16) (by decide) (fun c1 => (J_aload_n dX10_basket_16 rfl (J_getI (k := 1) (kz := 1) jcl_X10 dX10_basket_17 wf_X10_117 g_96 (Nat.le_of_ble_eq_true rfl) rfl rfl (k1 c1)))) (fun c1 => (J_iload_n dX10_basket_12 rfl (J_goto dX10_basket_13 (tgt := 20) (by decide) (k2 c1)))))))))
theorem b_X10_basket_20 {l : Launch} {z d : Nat} {X : jX} {M : Nat → Int → Int} {Q : Option jV → jM → Prop} {x1 : Int} {t1 : Int}   (k1 : J l z X (d + 6) mX10_back (0, 0) 0 [jR 96, jI t1, jN] [] (jG, M) (fun r μ => J l z X (d + 7) mX10_basket (0, 0) 23 [jR 96, jI x1] (r.toList ++ []) μ Q)) : J l z X (d + 7) mX10_basket (0, 0) 20 [jR 96, jI x1] [jI t1, jR 96] (jG, M) Q :=
  (J_callV (a1 := (0, 0)) (a2 := (0, 0)) (mm' := mX10_back) (S := []) [jI t1] md_X10_back im_X10_back se_X10_back dX10_basket_20 wm_X10_202 jcl_X10.1 rfl g_96 rfl rfl (Nat.le_of_ble_eq_true rfl) (Nat.le_of_ble_eq_true rfl) rfl k1)
theorem b_X10_basket_23 {l : Launch} {z d : Nat} {X : jX} {M : Nat → Int → Int} {Q : Option jV → jM → Prop} {x1 : Int} {t0 : Int}   (k1 : Q (some (jI t0)) (jG, M)) : J l z X (d + 7) mX10_basket (0, 0) 23 [jR 96, jI x1] [jI t0] (jG, M) Q :=
  (J_iret dX10_basket_23 rfl k1)
theorem b_X10_passed_0 {l : Launch} {z d : Nat} {X : jX} {M : Nat → Int → Int} {Q : Option jV → jM → Prop} {x1 : Int}   (k1 : 0 ≤ x1 ∧ x1 ≤ 1 → J l z X (d + 6) mX10_refusal (0, 0) 0 [jR 96] [] (jG, M) (fun r μ => J l z X (d + 7) mX10_passed (0, 0) 18 [jR 96, jI x1, jN] (r.toList ++ [jR 96]) μ Q)) (k2 : ¬ (0 ≤ x1 ∧ x1 ≤ 1) → Q (some (jI (-2))) (jG, M)) : J l z X (d + 7) mX10_passed (0, 0) 0 [jR 96, jI x1, jN] [] (jG, M) Q :=
  (J_iload_n dX10_passed_0 rfl (J_i2l dX10_passed_1 (J_lconst dX10_passed_2 jlc_0 jlv_0 (J_lconst dX10_passed_3 jlc_1 jlv_1 (J_callS (a1 := (0, 0)) (a2 := (0, 0)) (mm' := mX10_in) (S := []) [jL x1, jL 0, jL 1] md_X10_in is_X10_in dX10_passed_4 wm_X10_94 rfl rfl (Nat.le_of_ble_eq_true rfl) (Nat.le_of_ble_eq_true rfl) rfl (c_X10_in   (fun c1 => (J_if_ne dX10_passed_7 (tgt := 13) (by decide) (fun _ => (J_aload_n dX10_passed_13 rfl (J_aload_n dX10_passed_14 rfl (J_callV (a1 := (0, 0)) (a2 := (0, 0)) (mm' := mX10_refusal) (S := [jR 96]) [] md_X10_refusal im_X10_refusal se_X10_refusal dX10_passed_15 wm_X10_199 jcl_X10.1 rfl g_96 rfl rfl (Nat.le_of_ble_eq_true rfl) (Nat.le_of_ble_eq_true rfl) rfl (k1 c1))))) (fun c => absurd c (by decide)))) (fun c1 => (J_if_ne dX10_passed_7 (tgt := 13) (by decide) (fun c => absurd c (by decide)) (fun _ => (J_bipush dX10_passed_10 jc_m2 jb_m2 (J_iret dX10_passed_12 rfl (k2 c1))))))))))))
theorem b_X10_passed_18 {l : Launch} {z d : Nat} {X : jX} {M : Nat → Int → Int} {Q : Option jV → jM → Prop} {x1 : Int} {t1 : Int}   (k1 : J l z X (d + 6) mX10_back (0, 0) 0 [jR 96, jI t1, jN] [] (jG, M) (fun r μ => J l z X (d + 7) mX10_passed (0, 0) 21 [jR 96, jI x1, jN] (r.toList ++ []) μ Q)) : J l z X (d + 7) mX10_passed (0, 0) 18 [jR 96, jI x1, jN] [jI t1, jR 96] (jG, M) Q :=
  (J_callV (a1 := (0, 0)) (a2 := (0, 0)) (mm' := mX10_back) (S := []) [jI t1] md_X10_back im_X10_back se_X10_back dX10_passed_18 wm_X10_202 jcl_X10.1 rfl g_96 rfl rfl (Nat.le_of_ble_eq_true rfl) (Nat.le_of_ble_eq_true rfl) rfl k1)
theorem b_X10_passed_21 {l : Launch} {z d : Nat} {X : jX} {M : Nat → Int → Int} {Q : Option jV → jM → Prop} {x1 : Int} {t0 : Int}   (k1 : t0 = (-6) → x1 ≠ 0 → Q (some (jI (M 96 19))) (jG, M)) (k2 : t0 = (-6) → x1 = 0 → Q (some (jI (M 96 18))) (jG, M)) (k3 : t0 ≠ (-6) → Q (some (jI t0)) (jG, M)) : J l z X (d + 7) mX10_passed (0, 0) 21 [jR 96, jI x1, jN] [jI t0] (jG, M) Q :=
  (J_istore_n dX10_passed_21 (Nat.le_of_ble_eq_true rfl) (J_iload_n dX10_passed_22 rfl (J_bipush dX10_passed_23 jc_m6 jb_m6 (J_icmp_eq dX10_passed_25 (tgt := 32) (by decide) (fun c1 => (J_iload_n dX10_passed_32 rfl (J_if_ne dX10_passed_33 (tgt := 43) (by decide) (fun c2 => (J_aload_n dX10_passed_43 rfl (J_getI (k := 19) (kz := 19) jcl_X10 dX10_passed_44 wf_X10_161 g_96 (Nat.le_of_ble_eq_true rfl) rfl rfl (J_iret dX10_passed_47 rfl (k1 c1 c2))))) (fun c2 => (J_aload_n dX10_passed_36 rfl (J_getI (k := 18) (kz := 18) jcl_X10 dX10_passed_37 wf_X10_155 g_96 (Nat.le_of_ble_eq_true rfl) rfl rfl (J_goto dX10_passed_40 (tgt := 47) (by decide) (J_iret dX10_passed_47 rfl (k2 c1 c2))))))))) (fun c1 => (J_iload_n dX10_passed_28 rfl (J_goto dX10_passed_29 (tgt := 47) (by decide) (J_iret dX10_passed_47 rfl (k3 c1)))))))))
theorem b_X10_oldest_0 {l : Launch} {z d : Nat} {X : jX} {M : Nat → Int → Int} {Q : Option jV → jM → Prop} {x1 : Int}   (k1 : J l z X (d + 6) mX10_refusal (0, 0) 0 [jR 96] [] (jG, M) (fun r μ => J l z X (d + 7) mX10_oldest (0, 0) 5 [jR 96, jI x1, jN] (r.toList ++ [jR 96]) μ Q)) : J l z X (d + 7) mX10_oldest (0, 0) 0 [jR 96, jI x1, jN] [] (jG, M) Q :=
  (J_aload_n dX10_oldest_0 rfl (J_aload_n dX10_oldest_1 rfl (J_callV (a1 := (0, 0)) (a2 := (0, 0)) (mm' := mX10_refusal) (S := [jR 96]) [] md_X10_refusal im_X10_refusal se_X10_refusal dX10_oldest_2 wm_X10_199 jcl_X10.1 rfl g_96 rfl rfl (Nat.le_of_ble_eq_true rfl) (Nat.le_of_ble_eq_true rfl) rfl k1)))
theorem b_X10_oldest_5 {l : Launch} {z d : Nat} {X : jX} {M : Nat → Int → Int} {Q : Option jV → jM → Prop} {x1 : Int} {t1 : Int}   (k1 : J l z X (d + 6) mX10_back (0, 0) 0 [jR 96, jI t1, jN] [] (jG, M) (fun r μ => J l z X (d + 7) mX10_oldest (0, 0) 8 [jR 96, jI x1, jN] (r.toList ++ []) μ Q)) : J l z X (d + 7) mX10_oldest (0, 0) 5 [jR 96, jI x1, jN] [jI t1, jR 96] (jG, M) Q :=
  (J_callV (a1 := (0, 0)) (a2 := (0, 0)) (mm' := mX10_back) (S := []) [jI t1] md_X10_back im_X10_back se_X10_back dX10_oldest_5 wm_X10_202 jcl_X10.1 rfl g_96 rfl rfl (Nat.le_of_ble_eq_true rfl) (Nat.le_of_ble_eq_true rfl) rfl k1)
theorem b_X10_oldest_8 {l : Launch} {z d : Nat} {X : jX} {M : Nat → Int → Int} {Q : Option jV → jM → Prop} {x1 : Int} {t0 : Int}  (s1 : t0 = (-6) → jInL ((M 96 17) - 1)) (s2 : t0 = (-6) → 0 ≤ x1 ∧ x1 ≤ ((M 96 17) - 1) → 0 ≤ x1) (s3 : t0 = (-6) → 0 ≤ x1 ∧ x1 ≤ ((M 96 17) - 1) → x1 < 100) (k1 : t0 = (-6) → 0 ≤ x1 ∧ x1 ≤ ((M 96 17) - 1) → Q (some (jI (M 107 x1))) (jG, M)) (k2 : t0 = (-6) → ¬ (0 ≤ x1 ∧ x1 ≤ ((M 96 17) - 1)) → Q (some (jI (-1))) (jG, M)) (k3 : t0 ≠ (-6) → Q (some (jI t0)) (jG, M)) : J l z X (d + 7) mX10_oldest (0, 0) 8 [jR 96, jI x1, jN] [jI t0] (jG, M) Q :=
  (J_istore_n dX10_oldest_8 (Nat.le_of_ble_eq_true rfl) (J_iload_n dX10_oldest_9 rfl (J_bipush dX10_oldest_10 jc_m6 jb_m6 (J_icmp_eq dX10_oldest_12 (tgt := 19) (by decide) (fun c1 => (J_iload_n dX10_oldest_19 rfl (J_i2l dX10_oldest_20 (J_lconst dX10_oldest_21 jlc_0 jlv_0 (J_aload_n dX10_oldest_22 rfl (J_getI (k := 17) (kz := 17) jcl_X10 dX10_oldest_23 wf_X10_158 g_96 (Nat.le_of_ble_eq_true rfl) rfl rfl (J_i2l dX10_oldest_26 (J_lconst dX10_oldest_27 jlc_1 jlv_1 (J_lsub dX10_oldest_28 (s1 c1) (J_callS (a1 := (0, 0)) (a2 := (0, 0)) (mm' := mX10_in) (S := []) [jL x1, jL 0, jL ((M 96 17) - 1)] md_X10_in is_X10_in dX10_oldest_29 wm_X10_94 rfl rfl (Nat.le_of_ble_eq_true rfl) (Nat.le_of_ble_eq_true rfl) rfl (c_X10_in   (fun c2 => (J_if_eq dX10_oldest_32 (tgt := 44) (by decide) (fun c => absurd c (by decide)) (fun _ => (J_aload_n dX10_oldest_35 rfl (J_getR (k := 20) jcl_X10 dX10_oldest_36 wf_X10_40 g_96 (Nat.le_of_ble_eq_true rfl) rfl rfl (J_iload_n dX10_oldest_39 rfl (J_iald dX10_oldest_40 g_107 (s2 c1 c2) (s3 c1 c2) (J_goto dX10_oldest_41 (tgt := 45) (by decide) (J_iret dX10_oldest_45 rfl (k1 c1 c2)))))))))) (fun c2 => (J_if_eq dX10_oldest_32 (tgt := 44) (by decide) (fun _ => (J_iconst dX10_oldest_44 jc_m1 (J_iret dX10_oldest_45 rfl (k2 c1 c2)))) (fun c => absurd c (by decide))))))))))))))) (fun c1 => (J_iload_n dX10_oldest_15 rfl (J_goto dX10_oldest_16 (tgt := 45) (by decide) (J_iret dX10_oldest_45 rfl (k3 c1)))))))))
theorem b_X10_done_0 {l : Launch} {z d : Nat} {X : jX} {M : Nat → Int → Int} {Q : Option jV → jM → Prop}    (k1 : J l z X (d + 6) mX10_refusal (0, 0) 0 [jR 96] [] (jG, M) (fun r μ => J l z X (d + 7) mX10_done (0, 0) 4 [jR 96, jN] (r.toList ++ []) μ Q)) : J l z X (d + 7) mX10_done (0, 0) 0 [jR 96, jN] [] (jG, M) Q :=
  (J_aload_n dX10_done_0 rfl (J_callV (a1 := (0, 0)) (a2 := (0, 0)) (mm' := mX10_refusal) (S := []) [] md_X10_refusal im_X10_refusal se_X10_refusal dX10_done_1 wm_X10_199 jcl_X10.1 rfl g_96 rfl rfl (Nat.le_of_ble_eq_true rfl) (Nat.le_of_ble_eq_true rfl) rfl k1))
theorem b_X10_done_4 {l : Launch} {z d : Nat} {X : jX} {M : Nat → Int → Int} {Q : Option jV → jM → Prop} {t0 : Int}   (k1 : t0 = (-6) → Q (some (jI ((jupd M 96 12 0) 96 16))) (jG, (jupd M 96 12 0))) (k2 : t0 ≠ (-6) → J l z X (d + 6) mX10_back (0, 0) 0 [jR 96, jI t0, jN] [] (jG, M) (fun r μ => J l z X (d + 7) mX10_done (0, 0) 16 [jR 96, jI t0] (r.toList ++ []) μ Q)) : J l z X (d + 7) mX10_done (0, 0) 4 [jR 96, jN] [jI t0] (jG, M) Q :=
  (J_istore_n dX10_done_4 (Nat.le_of_ble_eq_true rfl) (J_iload_n dX10_done_5 rfl (J_bipush dX10_done_6 jc_m6 jb_m6 (J_icmp_eq dX10_done_8 (tgt := 17) (by decide) (fun c1 => (J_aload_n dX10_done_17 rfl (J_iconst dX10_done_18 jc_0 (J_putI (k := 12) (kz := 12) jcl_X10 dX10_done_19 wf_X10_124 g_96 (Nat.le_of_ble_eq_true rfl) rfl rfl rfl (J_aload_n dX10_done_22 rfl (J_getI (k := 16) (kz := 16) jcl_X10 dX10_done_23 wf_X10_131 g_96 (Nat.le_of_ble_eq_true rfl) rfl rfl (J_iret dX10_done_26 rfl (k1 c1)))))))) (fun c1 => (J_aload_n dX10_done_11 rfl (J_iload_n dX10_done_12 rfl (J_callV (a1 := (0, 0)) (a2 := (0, 0)) (mm' := mX10_back) (S := []) [jI t0] md_X10_back im_X10_back se_X10_back dX10_done_13 wm_X10_202 jcl_X10.1 rfl g_96 rfl rfl (Nat.le_of_ble_eq_true rfl) (Nat.le_of_ble_eq_true rfl) rfl (k2 c1)))))))))
theorem b_X10_done_16 {l : Launch} {z d : Nat} {X : jX} {M : Nat → Int → Int} {Q : Option jV → jM → Prop} {x1 : Int} {t0 : Int}   (k1 : Q (some (jI t0)) (jG, M)) : J l z X (d + 7) mX10_done (0, 0) 16 [jR 96, jI x1] [jI t0] (jG, M) Q :=
  (J_iret dX10_done_16 rfl k1)
theorem b_X10_lasts_0 {l : Launch} {z d : Nat} {X : jX} {M : Nat → Int → Int} {Q : Option jV → jM → Prop} {x1 : Int} {x2 : Int}  (s1 : hasB (M 96 0) x1 = true → 0 ≤ x2 ∧ x2 ≤ 99 → x2 ≠ 99 → 0 ≤ x1) (s2 : hasB (M 96 0) x1 = true → 0 ≤ x2 ∧ x2 ≤ 99 → x2 ≠ 99 → x1 < 6) (s3 : hasB (M 96 0) x1 = true → 0 ≤ x2 ∧ x2 ≤ 99 → x2 ≠ 99 → (M 97 x1) ≤ x2 → 0 ≤ x1) (s4 : hasB (M 96 0) x1 = true → 0 ≤ x2 ∧ x2 ≤ 99 → x2 ≠ 99 → (M 97 x1) ≤ x2 → x1 < 6) (s5 : hasB (M 96 0) x1 = true → 0 ≤ x2 ∧ x2 ≤ 99 → x2 ≠ 99 → (M 97 x1) ≤ x2 → jIn (x2 - (M 97 x1))) (s6 : hasB (M 96 0) x1 = true → 0 ≤ x2 ∧ x2 ≤ 99 → x2 ≠ 99 → (M 97 x1) ≤ x2 → 0 ≤ (x2 - (M 97 x1))) (s7 : hasB (M 96 0) x1 = true → 0 ≤ x2 ∧ x2 ≤ 99 → x2 ≠ 99 → (M 97 x1) ≤ x2 → 0 < (M 98 x1)) (k1 : hasB (M 96 0) x1 = true → 0 ≤ x2 ∧ x2 ≤ 99 → x2 ≠ 99 → (M 97 x1) ≤ x2 → Q (some (jI ((x2 - (M 97 x1)) / (M 98 x1)))) (jG, M)) (k2 : hasB (M 96 0) x1 = true → 0 ≤ x2 ∧ x2 ≤ 99 → x2 ≠ 99 → x2 < (M 97 x1) → Q (some (jI (-6))) (jG, M)) (k3 : hasB (M 96 0) x1 = true → 0 ≤ x2 ∧ x2 ≤ 99 → x2 = 99 → Q (some (jI 100)) (jG, M)) (k4 : hasB (M 96 0) x1 = true → ¬ (0 ≤ x2 ∧ x2 ≤ 99) → Q (some (jI (-2))) (jG, M)) (k5 : hasB (M 96 0) x1 = false → Q (some (jI (-1))) (jG, M)) : J l z X (d + 2) mX10_lasts (0, 0) 0 [jR 96, jI x1, jI x2] [] (jG, M) Q :=
  (J_aload_n dX10_lasts_0 rfl (J_iload_n dX10_lasts_1 rfl (J_callV (a1 := (0, 0)) (a2 := (0, 0)) (mm' := mX10_isOne) (S := []) [jI x1] md_X10_isOne im_X10_isOne se_X10_isOne dX10_lasts_2 wm_X10_109 jcl_X10.1 rfl g_96 rfl rfl (Nat.le_of_ble_eq_true rfl) (Nat.le_of_ble_eq_true rfl) rfl (c_X10_isOne   (fun c1 => (J_if_ne dX10_lasts_5 (tgt := 10) (by decide) (fun _ => (J_iload_n dX10_lasts_10 rfl (J_i2l dX10_lasts_11 (J_lconst dX10_lasts_12 jlc_0 jlv_0 (J_ldc2 dX10_lasts_13 (lw_X10_101) lcl_X10_101 rfl (J_callS (a1 := (0, 0)) (a2 := (0, 0)) (mm' := mX10_in) (S := []) [jL x2, jL 0, jL 99] md_X10_in is_X10_in dX10_lasts_16 wm_X10_94 rfl rfl (Nat.le_of_ble_eq_true rfl) (Nat.le_of_ble_eq_true rfl) rfl (c_X10_in   (fun c2 => (J_if_ne dX10_lasts_19 (tgt := 25) (by decide) (fun _ => (J_iload_n dX10_lasts_25 rfl (J_bipush dX10_lasts_26 jc_99 jb_99 (J_icmp_ne dX10_lasts_28 (tgt := 36) (by decide) (fun c3 => (J_aload_n dX10_lasts_36 rfl (J_getR (k := 4) jcl_X10 dX10_lasts_37 wf_X10_7 g_96 (Nat.le_of_ble_eq_true rfl) rfl rfl (J_iload_n dX10_lasts_40 rfl (J_iald dX10_lasts_41 g_97 (s1 c1 c2 c3) (s2 c1 c2 c3) (J_iload_n dX10_lasts_42 rfl (J_icmp_le dX10_lasts_43 (tgt := 51) (by decide) (fun c4 => (J_iload_n dX10_lasts_51 rfl (J_aload_n dX10_lasts_52 rfl (J_getR (k := 4) jcl_X10 dX10_lasts_53 wf_X10_7 g_96 (Nat.le_of_ble_eq_true rfl) rfl rfl (J_iload_n dX10_lasts_56 rfl (J_iald dX10_lasts_57 g_97 (s3 c1 c2 c3 c4) (s4 c1 c2 c3 c4) (J_isub dX10_lasts_58 (s5 c1 c2 c3 c4) (J_aload_n dX10_lasts_59 rfl (J_getR (k := 5) jcl_X10 dX10_lasts_60 wf_X10_13 g_96 (Nat.le_of_ble_eq_true rfl) rfl rfl (J_iload_n dX10_lasts_63 rfl (J_iald dX10_lasts_64 g_98 (s3 c1 c2 c3 c4) (s4 c1 c2 c3 c4) (J_idiv dX10_lasts_65 (s6 c1 c2 c3 c4) (s7 c1 c2 c3 c4) (J_iret dX10_lasts_66 rfl (k1 c1 c2 c3 c4)))))))))))))) (fun c4 => (J_bipush dX10_lasts_46 jc_m6 jb_m6 (J_goto dX10_lasts_48 (tgt := 66) (by decide) (J_iret dX10_lasts_66 rfl (k2 c1 c2 c3 c4)))))))))))) (fun c3 => (J_bipush dX10_lasts_31 jc_100 jb_100 (J_goto dX10_lasts_33 (tgt := 66) (by decide) (J_iret dX10_lasts_66 rfl (k3 c1 c2 c3))))))))) (fun c => absurd c (by decide)))) (fun c2 => (J_if_ne dX10_lasts_19 (tgt := 25) (by decide) (fun c => absurd c (by decide)) (fun _ => (J_bipush dX10_lasts_22 jc_m2 jb_m2 (J_iret dX10_lasts_24 rfl (k4 c1 c2))))))))))))) (fun c => absurd c (by decide)))) (fun c1 => (J_if_ne dX10_lasts_5 (tgt := 10) (by decide) (fun c => absurd c (by decide)) (fun _ => (J_iconst dX10_lasts_8 jc_m1 (J_iret dX10_lasts_9 rfl (k5 c1))))))))))
theorem b_X10_ageAt_0 {l : Launch} {z d : Nat} {X : jX} {M : Nat → Int → Int} {Q : Option jV → jM → Prop} {x1 : Int} {x2 : Int}   (k1 : J l z X d mX10_ageAt (0, 0) 2 [jR 96, jI x1, jI x2, jI 0] [] (jG, M) Q) : J l z X d mX10_ageAt (0, 0) 0 [jR 96, jI x1, jI x2, jN] [] (jG, M) Q :=
  (J_iconst dX10_ageAt_0 jc_0 (J_istore_n dX10_ageAt_1 (Nat.le_of_ble_eq_true rfl) k1))
theorem b_X10_ageAt_2 {l : Launch} {z d : Nat} {X : jX} {M : Nat → Int → Int} {Q : Option jV → jM → Prop} {x1 : Int} {x2 : Int} {x3 : Int}  (s1 : 0 ≤ x1) (s2 : x1 < 3) (s3 : (M 112 x1) ≤ x3 → jIn (26 * x1)) (s4 : (M 112 x1) ≤ x3 → 0 ≤ x1) (s5 : (M 112 x1) ≤ x3 → x1 < 3) (s6 : (M 112 x1) ≤ x3 → jIn ((26 * x1) + (M 112 x1))) (s7 : (M 112 x1) ≤ x3 → 0 ≤ ((26 * x1) + (M 112 x1))) (s8 : (M 112 x1) ≤ x3 → ((26 * x1) + (M 112 x1)) < 78) (s9 : (M 112 x1) ≤ x3 → jIn (((jupd M 111 ((26 * x1) + (M 112 x1)) x2) 112 x1) + 1)) (s10 : (M 112 x1) ≤ x3 → jIn (((jupd (jupd M 111 ((26 * x1) + (M 112 x1)) x2) 112 x1 (((jupd M 111 ((26 * x1) + (M 112 x1)) x2) 112 x1) + 1)) 112 x1) - 1)) (s11 : x3 < (M 112 x1) → jIn (26 * x1)) (s12 : x3 < (M 112 x1) → jIn ((26 * x1) + x3)) (s13 : x3 < (M 112 x1) → 0 ≤ ((26 * x1) + x3)) (s14 : x3 < (M 112 x1) → ((26 * x1) + x3) < 78) (s15 : x3 < (M 112 x1) → (M 111 ((26 * x1) + x3)) ≠ x2 → jIn (x3 + 1)) (k1 : (M 112 x1) ≤ x3 → Q (some (jI (((jupd (jupd M 111 ((26 * x1) + (M 112 x1)) x2) 112 x1 (((jupd M 111 ((26 * x1) + (M 112 x1)) x2) 112 x1) + 1)) 112 x1) - 1))) (jG, (jupd (jupd M 111 ((26 * x1) + (M 112 x1)) x2) 112 x1 (((jupd M 111 ((26 * x1) + (M 112 x1)) x2) 112 x1) + 1)))) (k2 : x3 < (M 112 x1) → (M 111 ((26 * x1) + x3)) ≠ x2 → J l z X d mX10_ageAt (0, 0) 2 [jR 96, jI x1, jI x2, jI (x3 + 1)] [] (jG, M) Q) (k3 : x3 < (M 112 x1) → (M 111 ((26 * x1) + x3)) = x2 → Q (some (jI x3)) (jG, M)) : J l z X d mX10_ageAt (0, 0) 2 [jR 96, jI x1, jI x2, jI x3] [] (jG, M) Q :=
  (J_iload_n dX10_ageAt_2 rfl (J_aload_n dX10_ageAt_3 rfl (J_getR (k := 27) jcl_X10 dX10_ageAt_4 wf_X10_55 g_96 (Nat.le_of_ble_eq_true rfl) rfl rfl (J_iload_n dX10_ageAt_7 rfl (J_iald dX10_ageAt_8 g_112 s1 s2 (J_icmp_ge dX10_ageAt_9 (tgt := 35) (by decide) (fun c1 => (J_aload_n dX10_ageAt_35 rfl (J_getR (k := 26) jcl_X10 dX10_ageAt_36 wf_X10_52 g_96 (Nat.le_of_ble_eq_true rfl) rfl rfl (J_bipush dX10_ageAt_39 jc_26 jb_26 (J_iload_n dX10_ageAt_41 rfl (J_imul dX10_ageAt_42 (s3 c1) (J_aload_n dX10_ageAt_43 rfl (J_getR (k := 27) jcl_X10 dX10_ageAt_44 wf_X10_55 g_96 (Nat.le_of_ble_eq_true rfl) rfl rfl (J_iload_n dX10_ageAt_47 rfl (J_iald dX10_ageAt_48 g_112 (s4 c1) (s5 c1) (J_iadd dX10_ageAt_49 (s6 c1) (J_iload_n dX10_ageAt_50 rfl (J_iast dX10_ageAt_51 g_111 (s7 c1) (s8 c1) (J_aload_n dX10_ageAt_52 rfl (J_getR (k := 27) jcl_X10 dX10_ageAt_53 wf_X10_55 g_96 (Nat.le_of_ble_eq_true rfl) rfl rfl (J_iload_n dX10_ageAt_56 rfl (J_dup2_RI dX10_ageAt_57 (J_iald dX10_ageAt_58 g_112 (s4 c1) (s5 c1) (J_iconst dX10_ageAt_59 jc_1 (J_iadd dX10_ageAt_60 (s9 c1) (J_iast dX10_ageAt_61 g_112 (s4 c1) (s5 c1) (J_aload_n dX10_ageAt_62 rfl (J_getR (k := 27) jcl_X10 dX10_ageAt_63 wf_X10_55 g_96 (Nat.le_of_ble_eq_true rfl) rfl rfl (J_iload_n dX10_ageAt_66 rfl (J_iald dX10_ageAt_67 g_112 (s4 c1) (s5 c1) (J_iconst dX10_ageAt_68 jc_1 (J_isub dX10_ageAt_69 (s10 c1) (J_iret dX10_ageAt_70 rfl (k1 c1))))))))))))))))))))))))))))) (fun c1 => (J_aload_n dX10_ageAt_12 rfl (J_getR (k := 26) jcl_X10 dX10_ageAt_13 wf_X10_52 g_96 (Nat.le_of_ble_eq_true rfl) rfl rfl (J_bipush dX10_ageAt_16 jc_26 jb_26 (J_iload_n dX10_ageAt_18 rfl (J_imul dX10_ageAt_19 (s11 c1) (J_iload_n dX10_ageAt_20 rfl (J_iadd dX10_ageAt_21 (s12 c1) (J_iald dX10_ageAt_22 g_111 (s13 c1) (s14 c1) (J_iload_n dX10_ageAt_23 rfl (J_icmp_ne dX10_ageAt_24 (tgt := 29) (by decide) (fun c2 => (J_iinc dX10_ageAt_29 rfl jc_1 (s15 c1 c2) (J_goto dX10_ageAt_32 (tgt := 2) (by decide) (k2 c1 c2)))) (fun c2 => (J_iload_n dX10_ageAt_27 rfl (J_iret dX10_ageAt_28 rfl (k3 c1 c2)))))))))))))))))))))
theorem b_X10_layAges_0 {l : Launch} {z d : Nat} {X : jX} {M : Nat → Int → Int} {Q : Option jV → jM → Prop} {x1 : Int} {x2 : Int} {x3 : Int}  (s1 : 0 ≤ x1) (s2 : x1 < 3) (s3 : jIn (26 * x1)) (s4 : 0 ≤ (M 110 x1) → 0 ≤ (M 110 x1)) (s5 : 0 ≤ (M 110 x1) → (M 110 x1) < 6) (k1 : 0 ≤ (M 110 x1) → J l z X (d + 2) mX10_layAges (0, 0) 39 [jR 96, jI x1, jI x2, jI x3, jI (M 110 x1), jN, jN, jN] [jI ((jupd M 112 x1 1) 97 (M 110 x1)), jI (26 * x1), jR 111] (jG, (jupd M 112 x1 1)) Q) (k2 : (M 110 x1) < 0 → J l z X (d + 2) mX10_layAges (0, 0) 39 [jR 96, jI x1, jI x2, jI x3, jI (M 110 x1), jN, jN, jN] [jI 0, jI (26 * x1), jR 111] (jG, (jupd M 112 x1 1)) Q) : J l z X (d + 2) mX10_layAges (0, 0) 0 [jR 96, jI x1, jI x2, jI x3, jN, jN, jN, jN] [] (jG, M) Q :=
  (J_aload_n dX10_layAges_0 rfl (J_getR (k := 25) jcl_X10 dX10_layAges_1 wf_X10_49 g_96 (Nat.le_of_ble_eq_true rfl) rfl rfl (J_iload_n dX10_layAges_4 rfl (J_iald dX10_layAges_5 g_110 s1 s2 (J_istore dX10_layAges_6 (Nat.le_of_ble_eq_true rfl) (J_aload_n dX10_layAges_8 rfl (J_getR (k := 27) jcl_X10 dX10_layAges_9 wf_X10_55 g_96 (Nat.le_of_ble_eq_true rfl) rfl rfl (J_iload_n dX10_layAges_12 rfl (J_iconst dX10_layAges_13 jc_1 (J_iast dX10_layAges_14 g_112 s1 s2 (J_aload_n dX10_layAges_15 rfl (J_getR (k := 26) jcl_X10 dX10_layAges_16 wf_X10_52 g_96 (Nat.le_of_ble_eq_true rfl) rfl rfl (J_bipush dX10_layAges_19 jc_26 jb_26 (J_iload_n dX10_layAges_21 rfl (J_imul dX10_layAges_22 s3 (J_iload dX10_layAges_23 rfl (J_if_ge dX10_layAges_25 (tgt := 32) (by decide) (fun c1 => (J_aload_n dX10_layAges_32 rfl (J_getR (k := 4) jcl_X10 dX10_layAges_33 wf_X10_7 g_96 (Nat.le_of_ble_eq_true rfl) rfl rfl (J_iload dX10_layAges_36 rfl (J_iald dX10_layAges_38 g_97 (s4 c1) (s5 c1) (k1 c1)))))) (fun c1 => (J_iconst dX10_layAges_28 jc_0 (J_goto dX10_layAges_29 (tgt := 39) (by decide) (k2 c1)))))))))))))))))))))
theorem b_X10_layAges_39 {l : Launch} {z d : Nat} {X : jX} {M : Nat → Int → Int} {Q : Option jV → jM → Prop} {x1 : Int} {x2 : Int} {x3 : Int} {x4 : Int} {t1 : Int} {t2 : Int}  (s1 : 0 ≤ t1) (s2 : t1 < 78) (k1 : J l z X (d + 2) mX10_layAges (0, 0) 43 [jR 96, jI x1, jI x2, jI x3, jI x4, jI 0, jN, jN] [] (jG, (jupd M 111 t1 t2)) Q) : J l z X (d + 2) mX10_layAges (0, 0) 39 [jR 96, jI x1, jI x2, jI x3, jI x4, jN, jN, jN] [jI t2, jI t1, jR 111] (jG, M) Q :=
  (J_iast dX10_layAges_39 g_111 s1 s2 (J_iconst dX10_layAges_40 jc_0 (J_istore dX10_layAges_41 (Nat.le_of_ble_eq_true rfl) k1)))
theorem b_X10_layAges_43 {l : Launch} {z d : Nat} {X : jX} {M : Nat → Int → Int} {Q : Option jV → jM → Prop} {x1 : Int} {x2 : Int} {x3 : Int} {x4 : Int} {x5 : Int}  (s1 : x5 < x2 → 0 ≤ x1) (s2 : x5 < x2 → x1 < 3) (k1 : x2 ≤ x5 → Q none (jG, M)) (k2 : x5 < x2 → J l z X (d + 2) mX10_layAges (0, 0) 60 [jR 96, jI x1, jI x2, jI x3, jI x4, jI x5, jI (M 112 x1), jI 0] [] (jG, M) Q) : J l z X (d + 2) mX10_layAges (0, 0) 43 [jR 96, jI x1, jI x2, jI x3, jI x4, jI x5, jN, jN] [] (jG, M) Q :=
  (J_iload dX10_layAges_43 rfl (J_iload_n dX10_layAges_45 rfl (J_icmp_ge dX10_layAges_46 (tgt := 103) (by decide) (fun c1 => (J_vret dX10_layAges_103 rfl (k1 c1))) (fun c1 => (J_aload_n dX10_layAges_49 rfl (J_getR (k := 27) jcl_X10 dX10_layAges_50 wf_X10_55 g_96 (Nat.le_of_ble_eq_true rfl) rfl rfl (J_iload_n dX10_layAges_53 rfl (J_iald dX10_layAges_54 g_112 (s1 c1) (s2 c1) (J_istore dX10_layAges_55 (Nat.le_of_ble_eq_true rfl) (J_iconst dX10_layAges_57 jc_0 (J_istore dX10_layAges_58 (Nat.le_of_ble_eq_true rfl) (k2 c1))))))))))))
theorem b_X10_layAges_60 {l : Launch} {z d : Nat} {X : jX} {M : Nat → Int → Int} {Q : Option jV → jM → Prop} {x1 : Int} {x2 : Int} {x3 : Int} {x4 : Int} {x5 : Int} {x6 : Int} {x7 : Int}  (s1 : jIn (3 * x6)) (s2 : (3 * x6) ≤ x7 → 0 ≤ x1) (s3 : (3 * x6) ≤ x7 → x1 < 3) (s4 : (3 * x6) ≤ x7 → jIn (x5 + 1)) (s5 : x7 < (3 * x6) → 0 ≤ x7) (k1 : (3 * x6) ≤ x7 → J l z X (d + 2) mX10_layAges (0, 0) 43 [jR 96, jI x1, jI x2, jI x3, jI x4, jI (x5 + 1), jN, jN] [] (jG, (jupd M 115 x1 x6)) Q) (k2 : x7 < (3 * x6) → J l z X (d + 1) mX10_layAgeThen (0, 0) 0 [jR 96, jI x1, jI (x7 / 3), jI (x7 % 3), jI x3, jN, jN, jN] [] (jG, M) (fun r μ => J l z X (d + 2) mX10_layAges (0, 0) 83 [jR 96, jI x1, jI x2, jI x3, jI x4, jI x5, jI x6, jI x7] (r.toList ++ []) μ Q)) : J l z X (d + 2) mX10_layAges (0, 0) 60 [jR 96, jI x1, jI x2, jI x3, jI x4, jI x5, jI x6, jI x7] [] (jG, M) Q :=
  (J_iload dX10_layAges_60 rfl (J_iconst dX10_layAges_62 jc_3 (J_iload dX10_layAges_63 rfl (J_imul dX10_layAges_65 s1 (J_icmp_ge dX10_layAges_66 (tgt := 89) (by decide) (fun c1 => (J_aload_n dX10_layAges_89 rfl (J_getR (k := 30) jcl_X10 dX10_layAges_90 wf_X10_65 g_96 (Nat.le_of_ble_eq_true rfl) rfl rfl (J_iload_n dX10_layAges_93 rfl (J_iload dX10_layAges_94 rfl (J_iast dX10_layAges_96 g_115 (s2 c1) (s3 c1) (J_iinc dX10_layAges_97 rfl jc_1 (s4 c1) (J_goto dX10_layAges_100 (tgt := 43) (by decide) (J_weak [jR 96, jI x1, jI x2, jI x3, jI x4, jI (x5 + 1), jN, jN] ⟨Or.inr rfl, Or.inr rfl, Or.inr rfl, Or.inr rfl, Or.inr rfl, Or.inr rfl, Or.inl rfl, Or.inl rfl, trivial⟩ (k1 c1)))))))))) (fun c1 => (J_aload_n dX10_layAges_69 rfl (J_iload_n dX10_layAges_70 rfl (J_iload dX10_layAges_71 rfl (J_iconst dX10_layAges_73 jc_3 (J_idiv dX10_layAges_74 (s5 c1) (by decide) (J_iload dX10_layAges_75 rfl (J_iconst dX10_layAges_77 jc_3 (J_irem dX10_layAges_78 (s5 c1) (by decide) (J_iload_n dX10_layAges_79 rfl (J_callV (a1 := (0, 0)) (a2 := (0, 0)) (mm' := mX10_layAgeThen) (S := []) [jI x1, jI (x7 / 3), jI (x7 % 3), jI x3] md_X10_layAgeThen im_X10_layAgeThen se_X10_layAgeThen dX10_layAges_80 wm_X10_205 jcl_X10.1 rfl g_96 rfl rfl (Nat.le_of_ble_eq_true rfl) (Nat.le_of_ble_eq_true rfl) rfl (k2 c1)))))))))))))))))
theorem b_X10_layAges_83 {l : Launch} {z d : Nat} {X : jX} {M : Nat → Int → Int} {Q : Option jV → jM → Prop} {x1 : Int} {x2 : Int} {x3 : Int} {x4 : Int} {x5 : Int} {x6 : Int} {x7 : Int}  (s1 : jIn (x7 + 1)) (k1 : J l z X (d + 2) mX10_layAges (0, 0) 60 [jR 96, jI x1, jI x2, jI x3, jI x4, jI x5, jI x6, jI (x7 + 1)] [] (jG, M) Q) : J l z X (d + 2) mX10_layAges (0, 0) 83 [jR 96, jI x1, jI x2, jI x3, jI x4, jI x5, jI x6, jI x7] [] (jG, M) Q :=
  (J_iinc dX10_layAges_83 rfl jc_1 s1 (J_goto dX10_layAges_86 (tgt := 60) (by decide) k1))
theorem b_X10_layAgeThen_0 {l : Launch} {z d : Nat} {X : jX} {M : Nat → Int → Int} {Q : Option jV → jM → Prop} {x1 : Int} {x2 : Int} {x3 : Int} {x4 : Int}  (s1 : 0 ≤ x1) (s2 : x1 < 3) (s3 : 0 ≤ (M 110 x1) → jIn (26 * x1)) (s4 : 0 ≤ (M 110 x1) → jIn ((26 * x1) + x2)) (s5 : 0 ≤ (M 110 x1) → 0 ≤ ((26 * x1) + x2)) (s6 : 0 ≤ (M 110 x1) → ((26 * x1) + x2) < 78) (s7 : 0 ≤ (M 110 x1) → (0 ≤ (M 110 x1) ∧ (M 110 x1) < 6) ∧ (-1000 ≤ (M 111 ((26 * x1) + x2)) ∧ (M 111 ((26 * x1) + x2)) ≤ 1000) ∧ (0 ≤ (M 98 (M 110 x1)) ∧ (M 98 (M 110 x1)) ≤ 9)) (k1 : 0 ≤ (M 110 x1) → 0 ≤ (M 110 x1) → x4 < (agF (M 98 (M 110 x1)) (M 99 (M 110 x1)) (M 111 ((26 * x1) + x2)) x3) → J l z X (d + 1) mX10_layAgeThen (0, 0) 66 [jR 96, jI x1, jI x2, jI x3, jI x4, jI (M 110 x1), jI (agF (M 98 (M 110 x1)) (M 99 (M 110 x1)) (M 111 ((26 * x1) + x2)) x3), jN] [jI 0] (jG, M) Q) (k2 : 0 ≤ (M 110 x1) → 0 ≤ (M 110 x1) → (agF (M 98 (M 110 x1)) (M 99 (M 110 x1)) (M 111 ((26 * x1) + x2)) x3) ≤ x4 → J l z X (d + 1) mX10_layAgeThen (0, 0) 66 [jR 96, jI x1, jI x2, jI x3, jI x4, jI (M 110 x1), jI (agF (M 98 (M 110 x1)) (M 99 (M 110 x1)) (M 111 ((26 * x1) + x2)) x3), jN] [jI 1] (jG, M) Q) (k3 : 0 ≤ (M 110 x1) → (M 110 x1) < 0 → x3 ≠ 0 → J l z X (d + 1) mX10_layAgeThen (0, 0) 66 [jR 96, jI x1, jI x2, jI x3, jI x4, jI (M 110 x1), jI (agF (M 98 (M 110 x1)) (M 99 (M 110 x1)) (M 111 ((26 * x1) + x2)) x3), jN] [jI 0] (jG, M) Q) (k4 : 0 ≤ (M 110 x1) → (M 110 x1) < 0 → x3 = 0 → J l z X (d + 1) mX10_layAgeThen (0, 0) 66 [jR 96, jI x1, jI x2, jI x3, jI x4, jI (M 110 x1), jI (agF (M 98 (M 110 x1)) (M 99 (M 110 x1)) (M 111 ((26 * x1) + x2)) x3), jN] [jI 1] (jG, M) Q) (k5 : (M 110 x1) < 0 → J l z X (d + 1) mX10_layAgeThen (0, 0) 35 [jR 96, jI x1, jI x2, jI x3, jI x4, jI (M 110 x1), jN, jN] [jI 0] (jG, M) Q) : J l z X (d + 1) mX10_layAgeThen (0, 0) 0 [jR 96, jI x1, jI x2, jI x3, jI x4, jN, jN, jN] [] (jG, M) Q :=
  (J_aload_n dX10_layAgeThen_0 rfl (J_getR (k := 25) jcl_X10 dX10_layAgeThen_1 wf_X10_49 g_96 (Nat.le_of_ble_eq_true rfl) rfl rfl (J_iload_n dX10_layAgeThen_4 rfl (J_iald dX10_layAgeThen_5 g_110 s1 s2 (J_istore dX10_layAgeThen_6 (Nat.le_of_ble_eq_true rfl) (J_iload dX10_layAgeThen_8 rfl (J_if_ge dX10_layAgeThen_10 (tgt := 17) (by decide) (fun c1 => (J_aload_n dX10_layAgeThen_17 rfl (J_iload dX10_layAgeThen_18 rfl (J_aload_n dX10_layAgeThen_20 rfl (J_getR (k := 26) jcl_X10 dX10_layAgeThen_21 wf_X10_52 g_96 (Nat.le_of_ble_eq_true rfl) rfl rfl (J_bipush dX10_layAgeThen_24 jc_26 jb_26 (J_iload_n dX10_layAgeThen_26 rfl (J_imul dX10_layAgeThen_27 (s3 c1) (J_iload_n dX10_layAgeThen_28 rfl (J_iadd dX10_layAgeThen_29 (s4 c1) (J_iald dX10_layAgeThen_30 g_111 (s5 c1) (s6 c1) (J_iload_n dX10_layAgeThen_31 rfl (J_callV (a1 := (0, 0)) (a2 := (0, 0)) (mm' := mX10_lookBehind) (S := []) [jI (M 110 x1), jI (M 111 ((26 * x1) + x2)), jI x3] md_X10_lookBehind im_X10_lookBehind se_X10_lookBehind dX10_layAgeThen_32 wm_X10_147 jcl_X10.1 rfl g_96 rfl rfl (Nat.le_of_ble_eq_true rfl) (Nat.le_of_ble_eq_true rfl) rfl (c_X10_lookBehind  (s7 c1) (J_istore dX10_layAgeThen_35 (Nat.le_of_ble_eq_true rfl) (J_iload dX10_layAgeThen_37 rfl (J_if_ge dX10_layAgeThen_39 (tgt := 54) (by decide) (fun c2 => (J_iload dX10_layAgeThen_54 rfl (J_iload dX10_layAgeThen_56 rfl (J_icmp_gt dX10_layAgeThen_58 (tgt := 65) (by decide) (fun c3 => (J_iconst dX10_layAgeThen_65 jc_0 (k1 c1 c2 c3))) (fun c3 => (J_iconst dX10_layAgeThen_61 jc_1 (J_goto dX10_layAgeThen_62 (tgt := 66) (by decide) (k2 c1 c2 c3)))))))) (fun c2 => (J_iload_n dX10_layAgeThen_42 rfl (J_if_ne dX10_layAgeThen_43 (tgt := 50) (by decide) (fun c4 => (J_iconst dX10_layAgeThen_50 jc_0 (J_goto dX10_layAgeThen_51 (tgt := 66) (by decide) (k3 c1 c2 c4)))) (fun c4 => (J_iconst dX10_layAgeThen_46 jc_1 (J_goto dX10_layAgeThen_47 (tgt := 66) (by decide) (k4 c1 c2 c4)))))))))))))))))))))))) (fun c1 => (J_iconst dX10_layAgeThen_13 jc_0 (J_goto dX10_layAgeThen_14 (tgt := 35) (by decide) (k5 c1)))))))))))
theorem b_X10_layAgeThen_35 {l : Launch} {z d : Nat} {X : jX} {M : Nat → Int → Int} {Q : Option jV → jM → Prop} {x1 : Int} {x2 : Int} {x3 : Int} {x4 : Int} {x5 : Int} {t0 : Int}   (k1 : 0 ≤ x5 → x4 < t0 → J l z X (d + 1) mX10_layAgeThen (0, 0) 66 [jR 96, jI x1, jI x2, jI x3, jI x4, jI x5, jI t0, jN] [jI 0] (jG, M) Q) (k2 : 0 ≤ x5 → t0 ≤ x4 → J l z X (d + 1) mX10_layAgeThen (0, 0) 66 [jR 96, jI x1, jI x2, jI x3, jI x4, jI x5, jI t0, jN] [jI 1] (jG, M) Q) (k3 : x5 < 0 → x3 ≠ 0 → J l z X (d + 1) mX10_layAgeThen (0, 0) 66 [jR 96, jI x1, jI x2, jI x3, jI x4, jI x5, jI t0, jN] [jI 0] (jG, M) Q) (k4 : x5 < 0 → x3 = 0 → J l z X (d + 1) mX10_layAgeThen (0, 0) 66 [jR 96, jI x1, jI x2, jI x3, jI x4, jI x5, jI t0, jN] [jI 1] (jG, M) Q) : J l z X (d + 1) mX10_layAgeThen (0, 0) 35 [jR 96, jI x1, jI x2, jI x3, jI x4, jI x5, jN, jN] [jI t0] (jG, M) Q :=
  (J_istore dX10_layAgeThen_35 (Nat.le_of_ble_eq_true rfl) (J_iload dX10_layAgeThen_37 rfl (J_if_ge dX10_layAgeThen_39 (tgt := 54) (by decide) (fun c1 => (J_iload dX10_layAgeThen_54 rfl (J_iload dX10_layAgeThen_56 rfl (J_icmp_gt dX10_layAgeThen_58 (tgt := 65) (by decide) (fun c2 => (J_iconst dX10_layAgeThen_65 jc_0 (k1 c1 c2))) (fun c2 => (J_iconst dX10_layAgeThen_61 jc_1 (J_goto dX10_layAgeThen_62 (tgt := 66) (by decide) (k2 c1 c2)))))))) (fun c1 => (J_iload_n dX10_layAgeThen_42 rfl (J_if_ne dX10_layAgeThen_43 (tgt := 50) (by decide) (fun c3 => (J_iconst dX10_layAgeThen_50 jc_0 (J_goto dX10_layAgeThen_51 (tgt := 66) (by decide) (k3 c1 c3)))) (fun c3 => (J_iconst dX10_layAgeThen_46 jc_1 (J_goto dX10_layAgeThen_47 (tgt := 66) (by decide) (k4 c1 c3))))))))))
theorem b_X10_layAgeThen_66 {l : Launch} {z d : Nat} {X : jX} {M : Nat → Int → Int} {Q : Option jV → jM → Prop} {x1 : Int} {x2 : Int} {x3 : Int} {x4 : Int} {x5 : Int} {x6 : Int} {t0 : Int}  (s1 : jIn (78 * x1)) (s2 : jIn (3 * x2)) (s3 : jIn ((78 * x1) + (3 * x2))) (s4 : jIn (((78 * x1) + (3 * x2)) + x3)) (s5 : t0 = 0 → 0 ≤ (((78 * x1) + (3 * x2)) + x3)) (s6 : t0 = 0 → (((78 * x1) + (3 * x2)) + x3) < 234) (k1 : t0 = 0 → Q none (jG, (jupd M 113 (((78 * x1) + (3 * x2)) + x3) (-6)))) (k2 : t0 ≠ 0 → J l z X d mX10_ageAt (0, 0) 0 [jR 96, jI x1, jI x6, jN] [] (jG, M) (fun r μ => J l z X (d + 1) mX10_layAgeThen (0, 0) 94 [jR 96, jI x1, jI x2, jI x3, jI x4, jI x5, jI x6, jI t0] (r.toList ++ [jI (((78 * x1) + (3 * x2)) + x3), jR 113]) μ Q)) : J l z X (d + 1) mX10_layAgeThen (0, 0) 66 [jR 96, jI x1, jI x2, jI x3, jI x4, jI x5, jI x6, jN] [jI t0] (jG, M) Q :=
  (J_istore dX10_layAgeThen_66 (Nat.le_of_ble_eq_true rfl) (J_aload_n dX10_layAgeThen_68 rfl (J_getR (k := 28) jcl_X10 dX10_layAgeThen_69 wf_X10_58 g_96 (Nat.le_of_ble_eq_true rfl) rfl rfl (J_bipush dX10_layAgeThen_72 jc_78 jb_78 (J_iload_n dX10_layAgeThen_74 rfl (J_imul dX10_layAgeThen_75 s1 (J_iconst dX10_layAgeThen_76 jc_3 (J_iload_n dX10_layAgeThen_77 rfl (J_imul dX10_layAgeThen_78 s2 (J_iadd dX10_layAgeThen_79 s3 (J_iload_n dX10_layAgeThen_80 rfl (J_iadd dX10_layAgeThen_81 s4 (J_iload dX10_layAgeThen_82 rfl (J_if_eq dX10_layAgeThen_84 (tgt := 97) (by decide) (fun c1 => (J_bipush dX10_layAgeThen_97 jc_m6 jb_m6 (J_iast dX10_layAgeThen_99 g_113 (s5 c1) (s6 c1) (J_vret dX10_layAgeThen_100 rfl (k1 c1))))) (fun c1 => (J_aload_n dX10_layAgeThen_87 rfl (J_iload_n dX10_layAgeThen_88 rfl (J_iload dX10_layAgeThen_89 rfl (J_callV (a1 := (0, 0)) (a2 := (0, 0)) (mm' := mX10_ageAt) (S := [jI (((78 * x1) + (3 * x2)) + x3), jR 113]) [jI x1, jI x6] md_X10_ageAt im_X10_ageAt se_X10_ageAt dX10_layAgeThen_91 wm_X10_209 jcl_X10.1 rfl g_96 rfl rfl (Nat.le_of_ble_eq_true rfl) (Nat.le_of_ble_eq_true rfl) rfl (k2 c1))))))))))))))))))))
theorem b_X10_layAgeThen_94 {l : Launch} {z d : Nat} {X : jX} {M : Nat → Int → Int} {Q : Option jV → jM → Prop} {x1 : Int} {x2 : Int} {x3 : Int} {x4 : Int} {x5 : Int} {x6 : Int} {x7 : Int} {t1 : Int} {t2 : Int}  (s1 : 0 ≤ t1) (s2 : t1 < 234) (k1 : Q none (jG, (jupd M 113 t1 t2))) : J l z X (d + 1) mX10_layAgeThen (0, 0) 94 [jR 96, jI x1, jI x2, jI x3, jI x4, jI x5, jI x6, jI x7] [jI t2, jI t1, jR 113] (jG, M) Q :=
  (J_goto dX10_layAgeThen_94 (tgt := 99) (by decide) (J_iast dX10_layAgeThen_99 g_113 s1 s2 (J_vret dX10_layAgeThen_100 rfl k1)))
theorem b_X10_thenOf_0 {l : Launch} {z d : Nat} {X : jX} {M : Nat → Int → Int} {Q : Option jV → jM → Prop} {x1 : Int} {x2 : Int} {x3 : Int} {x4 : Int}  (s1 : jIn (3 * x1)) (s2 : 0 ≤ x4) (s3 : jIn ((3 * x1) + (x4 / 9))) (s4 : 0 ≤ ((3 * x1) + (x4 / 9))) (s5 : ((3 * x1) + (x4 / 9)) < 234) (s6 : jIn (3 * x2)) (s7 : jIn (78 + (3 * x2))) (s8 : 0 ≤ (x4 / 3)) (s9 : jIn ((78 + (3 * x2)) + ((x4 / 3) % 3))) (s10 : 0 ≤ ((78 + (3 * x2)) + ((x4 / 3) % 3))) (s11 : ((78 + (3 * x2)) + ((x4 / 3) % 3)) < 234) (s12 : jIn (3 * x3)) (s13 : jIn (156 + (3 * x3))) (s14 : jIn ((156 + (3 * x3)) + (x4 % 3))) (s15 : 0 ≤ ((156 + (3 * x3)) + (x4 % 3))) (s16 : ((156 + (3 * x3)) + (x4 % 3)) < 234) (s17 : 0 ≤ (M 113 ((3 * x1) + (x4 / 9))) → 0 ≤ (M 113 ((78 + (3 * x2)) + ((x4 / 3) % 3))) → 0 ≤ (M 113 ((156 + (3 * x3)) + (x4 % 3))) → 0 ≤ (M 113 ((3 * x1) + (x4 / 9))) ∧ (M 113 ((3 * x1) + (x4 / 9))) ≤ 26 ∧ 0 ≤ (M 113 ((78 + (3 * x2)) + ((x4 / 3) % 3))) ∧ (M 113 ((78 + (3 * x2)) + ((x4 / 3) % 3))) ≤ 26 ∧ 0 ≤ (M 113 ((156 + (3 * x3)) + (x4 % 3))) ∧ (M 113 ((156 + (3 * x3)) + (x4 % 3))) ≤ 26) (k1 : (M 113 ((3 * x1) + (x4 / 9))) < 0 → Q (some (jI (-6))) (jG, M)) (k2 : 0 ≤ (M 113 ((3 * x1) + (x4 / 9))) → (M 113 ((78 + (3 * x2)) + ((x4 / 3) % 3))) < 0 → Q (some (jI (-6))) (jG, M)) (k3 : 0 ≤ (M 113 ((3 * x1) + (x4 / 9))) → 0 ≤ (M 113 ((78 + (3 * x2)) + ((x4 / 3) % 3))) → 0 ≤ (M 113 ((156 + (3 * x3)) + (x4 % 3))) → Q (some (jI (26 * (26 * (M 113 ((3 * x1) + (x4 / 9))) + (M 113 ((78 + (3 * x2)) + ((x4 / 3) % 3)))) + (M 113 ((156 + (3 * x3)) + (x4 % 3)))))) (jG, M)) (k4 : 0 ≤ (M 113 ((3 * x1) + (x4 / 9))) → 0 ≤ (M 113 ((78 + (3 * x2)) + ((x4 / 3) % 3))) → (M 113 ((156 + (3 * x3)) + (x4 % 3))) < 0 → Q (some (jI (-6))) (jG, M)) : J l z X (d + 1) mX10_thenOf (0, 0) 0 [jR 96, jI x1, jI x2, jI x3, jI x4, jN, jN, jN] [] (jG, M) Q :=
  (J_aload_n dX10_thenOf_0 rfl (J_getR (k := 28) jcl_X10 dX10_thenOf_1 wf_X10_58 g_96 (Nat.le_of_ble_eq_true rfl) rfl rfl (J_iconst dX10_thenOf_4 jc_3 (J_iload_n dX10_thenOf_5 rfl (J_imul dX10_thenOf_6 s1 (J_iload dX10_thenOf_7 rfl (J_bipush dX10_thenOf_9 jc_9 jb_9 (J_idiv dX10_thenOf_11 s2 (by decide) (J_iadd dX10_thenOf_12 s3 (J_iald dX10_thenOf_13 g_113 s4 s5 (J_istore dX10_thenOf_14 (Nat.le_of_ble_eq_true rfl) (J_aload_n dX10_thenOf_16 rfl (J_getR (k := 28) jcl_X10 dX10_thenOf_17 wf_X10_58 g_96 (Nat.le_of_ble_eq_true rfl) rfl rfl (J_bipush dX10_thenOf_20 jc_78 jb_78 (J_iconst dX10_thenOf_22 jc_3 (J_iload_n dX10_thenOf_23 rfl (J_imul dX10_thenOf_24 s6 (J_iadd dX10_thenOf_25 s7 (J_iload dX10_thenOf_26 rfl (J_iconst dX10_thenOf_28 jc_3 (J_idiv dX10_thenOf_29 s2 (by decide) (J_iconst dX10_thenOf_30 jc_3 (J_irem dX10_thenOf_31 s8 (by decide) (J_iadd dX10_thenOf_32 s9 (J_iald dX10_thenOf_33 g_113 s10 s11 (J_istore dX10_thenOf_34 (Nat.le_of_ble_eq_true rfl) (J_aload_n dX10_thenOf_36 rfl (J_getR (k := 28) jcl_X10 dX10_thenOf_37 wf_X10_58 g_96 (Nat.le_of_ble_eq_true rfl) rfl rfl (J_sipush dX10_thenOf_40 jc_156 jsp_156 (J_iconst dX10_thenOf_43 jc_3 (J_iload_n dX10_thenOf_44 rfl (J_imul dX10_thenOf_45 s12 (J_iadd dX10_thenOf_46 s13 (J_iload dX10_thenOf_47 rfl (J_iconst dX10_thenOf_49 jc_3 (J_irem dX10_thenOf_50 s2 (by decide) (J_iadd dX10_thenOf_51 s14 (J_iald dX10_thenOf_52 g_113 s15 s16 (J_istore dX10_thenOf_53 (Nat.le_of_ble_eq_true rfl) (J_iload dX10_thenOf_55 rfl (J_if_lt dX10_thenOf_57 (tgt := 70) (by decide) (fun c1 => (J_bipush dX10_thenOf_70 jc_m6 jb_m6 (J_goto dX10_thenOf_72 (tgt := 84) (by decide) (J_iret dX10_thenOf_84 rfl (k1 c1))))) (fun c1 => (J_iload dX10_thenOf_60 rfl (J_if_lt dX10_thenOf_62 (tgt := 70) (by decide) (fun c2 => (J_bipush dX10_thenOf_70 jc_m6 jb_m6 (J_goto dX10_thenOf_72 (tgt := 84) (by decide) (J_iret dX10_thenOf_84 rfl (k2 c1 c2))))) (fun c2 => (J_iload dX10_thenOf_65 rfl (J_if_ge dX10_thenOf_67 (tgt := 75) (by decide) (fun c3 => (J_iload dX10_thenOf_75 rfl (J_iload dX10_thenOf_77 rfl (J_iload dX10_thenOf_79 rfl (J_callS (a1 := (0, 0)) (a2 := (0, 0)) (mm' := mX10_stateOf) (S := []) [jI (M 113 ((3 * x1) + (x4 / 9))), jI (M 113 ((78 + (3 * x2)) + ((x4 / 3) % 3))), jI (M 113 ((156 + (3 * x3)) + (x4 % 3)))] md_X10_stateOf is_X10_stateOf dX10_thenOf_81 wm_X10_212 rfl rfl (Nat.le_of_ble_eq_true rfl) (Nat.le_of_ble_eq_true rfl) rfl (c_X10_stateOf  (s17 c1 c2 c3) (J_iret dX10_thenOf_84 rfl (k3 c1 c2 c3)))))))) (fun c3 => (J_bipush dX10_thenOf_70 jc_m6 jb_m6 (J_goto dX10_thenOf_72 (tgt := 84) (by decide) (J_iret dX10_thenOf_84 rfl (k4 c1 c2 c3))))))))))))))))))))))))))))))))))))))))))))))))))))
theorem b_X10_halvesBy_0 {l : Launch} {z d : Nat} {X : jX} {M : Nat → Int → Int} {Q : Option jV → jM → Prop} {x1 : Int} {x2 : Int} {x3 : Int} {x4 : Int} {x5 : Int} {x6 : Int}  (s1 : 0 ≤ x4 ∧ x4 < 27) (k1 : (x4 / 9 + x4 / 3 % 3 + x4 % 3) ≤ x5 → J l z X (d + 1) mX10_thenOf (0, 0) 0 [jR 96, jI x1, jI x2, jI x3, jI x4, jN, jN, jN] [] (jG, M) (fun r μ => J l z X (d + 2) mX10_halvesBy (0, 0) 24 [jR 96, jI x1, jI x2, jI x3, jI x4, jI x5, jI x6, jN] (r.toList ++ []) μ Q)) (k2 : x5 < (x4 / 9 + x4 / 3 % 3 + x4 % 3) → J l z X (d + 2) mX10_halvesBy (0, 0) 24 [jR 96, jI x1, jI x2, jI x3, jI x4, jI x5, jI x6, jN] [jI (-6)] (jG, M) Q) : J l z X (d + 2) mX10_halvesBy (0, 0) 0 [jR 96, jI x1, jI x2, jI x3, jI x4, jI x5, jI x6, jN] [] (jG, M) Q :=
  (J_iload dX10_halvesBy_0 rfl (J_callS (a1 := (0, 0)) (a2 := (0, 0)) (mm' := mX10_halvesOf) (S := []) [jI x4] md_X10_halvesOf is_X10_halvesOf dX10_halvesBy_2 wm_X10_215 rfl rfl (Nat.le_of_ble_eq_true rfl) (Nat.le_of_ble_eq_true rfl) rfl (c_X10_halvesOf  s1 (J_iload dX10_halvesBy_5 rfl (J_icmp_le dX10_halvesBy_7 (tgt := 15) (by decide) (fun c1 => (J_aload_n dX10_halvesBy_15 rfl (J_iload_n dX10_halvesBy_16 rfl (J_iload_n dX10_halvesBy_17 rfl (J_iload_n dX10_halvesBy_18 rfl (J_iload dX10_halvesBy_19 rfl (J_callV (a1 := (0, 0)) (a2 := (0, 0)) (mm' := mX10_thenOf) (S := []) [jI x1, jI x2, jI x3, jI x4] md_X10_thenOf im_X10_thenOf se_X10_thenOf dX10_halvesBy_21 wm_X10_218 jcl_X10.1 rfl g_96 rfl rfl (Nat.le_of_ble_eq_true rfl) (Nat.le_of_ble_eq_true rfl) rfl (k1 c1)))))))) (fun c1 => (J_bipush dX10_halvesBy_10 jc_m6 jb_m6 (J_goto dX10_halvesBy_12 (tgt := 24) (by decide) (k2 c1)))))))))
theorem b_X10_halvesBy_24 {l : Launch} {z d : Nat} {X : jX} {M : Nat → Int → Int} {Q : Option jV → jM → Prop} {x1 : Int} {x2 : Int} {x3 : Int} {x4 : Int} {x5 : Int} {x6 : Int} {t0 : Int}  (s1 : 0 ≤ t0 → 0 ≤ x4 ∧ x4 < 27) (s2 : 0 ≤ t0 → jIn (x6 - 1)) (s3 : 0 ≤ t0 → jIn (17576 * (x6 - 1))) (s4 : 0 ≤ t0 → jIn ((17576 * (x6 - 1)) + t0)) (s5 : 0 ≤ t0 → 0 ≤ ((17576 * (x6 - 1)) + t0)) (s6 : 0 ≤ t0 → ((17576 * (x6 - 1)) + t0) < 123032) (s7 : 0 ≤ t0 → jIn ((x4 / 9 + x4 / 3 % 3 + x4 % 3) + (M 114 ((17576 * (x6 - 1)) + t0)))) (k1 : 0 ≤ t0 → Q (some (jI ((x4 / 9 + x4 / 3 % 3 + x4 % 3) + (M 114 ((17576 * (x6 - 1)) + t0))))) (jG, M)) (k2 : t0 < 0 → Q (some (jI 1000)) (jG, M)) : J l z X (d + 2) mX10_halvesBy (0, 0) 24 [jR 96, jI x1, jI x2, jI x3, jI x4, jI x5, jI x6, jN] [jI t0] (jG, M) Q :=
  (J_istore dX10_halvesBy_24 (Nat.le_of_ble_eq_true rfl) (J_iload dX10_halvesBy_26 rfl (J_if_ge dX10_halvesBy_28 (tgt := 37) (by decide) (fun c1 => (J_iload dX10_halvesBy_37 rfl (J_callS (a1 := (0, 0)) (a2 := (0, 0)) (mm' := mX10_halvesOf) (S := []) [jI x4] md_X10_halvesOf is_X10_halvesOf dX10_halvesBy_39 wm_X10_215 rfl rfl (Nat.le_of_ble_eq_true rfl) (Nat.le_of_ble_eq_true rfl) rfl (c_X10_halvesOf  (s1 c1) (J_aload_n dX10_halvesBy_42 rfl (J_getR (k := 29) jcl_X10 dX10_halvesBy_43 wf_X10_62 g_96 (Nat.le_of_ble_eq_true rfl) rfl rfl (J_sipush dX10_halvesBy_46 jc_17576 jsp_17576 (J_iload dX10_halvesBy_49 rfl (J_iconst dX10_halvesBy_51 jc_1 (J_isub dX10_halvesBy_52 (s2 c1) (J_imul dX10_halvesBy_53 (s3 c1) (J_iload dX10_halvesBy_54 rfl (J_iadd dX10_halvesBy_56 (s4 c1) (J_iald dX10_halvesBy_57 g_114 (s5 c1) (s6 c1) (J_iadd dX10_halvesBy_58 (s7 c1) (J_iret dX10_halvesBy_59 rfl (k1 c1))))))))))))))))) (fun c1 => (J_sipush dX10_halvesBy_31 jc_1000 jsp_1000 (J_goto dX10_halvesBy_34 (tgt := 59) (by decide) (J_iret dX10_halvesBy_59 rfl (k2 c1))))))))
theorem b_X10_manyAt_0 {l : Launch} {z d : Nat} {X : jX} {M : Nat → Int → Int} {Q : Option jV → jM → Prop} {x1 : Int} {x2 : Int}  (s1 : x2 ≠ 0 → 0 ≤ x1) (s2 : x2 ≠ 0 → x1 < 3) (s3 : x2 = 0 → 0 ≤ x1) (s4 : x2 = 0 → x1 < 3) (k1 : x2 ≠ 0 → Q (some (jI (M 115 x1))) (jG, M)) (k2 : x2 = 0 → Q (some (jI (M 112 x1))) (jG, M)) : J l z X d mX10_manyAt (0, 0) 0 [jR 96, jI x1, jI x2] [] (jG, M) Q :=
  (J_iload_n dX10_manyAt_0 rfl (J_if_ne dX10_manyAt_1 (tgt := 13) (by decide) (fun c1 => (J_aload_n dX10_manyAt_13 rfl (J_getR (k := 30) jcl_X10 dX10_manyAt_14 wf_X10_65 g_96 (Nat.le_of_ble_eq_true rfl) rfl rfl (J_iload_n dX10_manyAt_17 rfl (J_iald dX10_manyAt_18 g_115 (s1 c1) (s2 c1) (J_iret dX10_manyAt_19 rfl (k1 c1))))))) (fun c1 => (J_aload_n dX10_manyAt_4 rfl (J_getR (k := 27) jcl_X10 dX10_manyAt_5 wf_X10_55 g_96 (Nat.le_of_ble_eq_true rfl) rfl rfl (J_iload_n dX10_manyAt_8 rfl (J_iald dX10_manyAt_9 g_112 (s3 c1) (s4 c1) (J_goto dX10_manyAt_10 (tgt := 19) (by decide) (J_iret dX10_manyAt_19 rfl (k2 c1))))))))))
theorem b_X10_layHalves_0 {l : Launch} {z d : Nat} {X : jX} {M : Nat → Int → Int} {Q : Option jV → jM → Prop} {x1 : Int} {x2 : Int}   (k1 : J l z X (d + 3) mX10_layHalves (0, 0) 2 [jR 96, jI x1, jI x2, jI 0, jN, jN, jN, jN, jN] [] (jG, M) Q) : J l z X (d + 3) mX10_layHalves (0, 0) 0 [jR 96, jI x1, jI x2, jN, jN, jN, jN, jN, jN] [] (jG, M) Q :=
  (J_iconst dX10_layHalves_0 jc_0 (J_istore_n dX10_layHalves_1 (Nat.le_of_ble_eq_true rfl) k1))
theorem b_X10_layHalves_2 {l : Launch} {z d : Nat} {X : jX} {M : Nat → Int → Int} {Q : Option jV → jM → Prop} {x1 : Int} {x2 : Int} {x3 : Int}   (k1 : J l z X (d + 2) mX10_manyAt (0, 0) 0 [jR 96, jI 0, jI x1] [] (jG, M) (fun r μ => J l z X (d + 3) mX10_layHalves (0, 0) 9 [jR 96, jI x1, jI x2, jI x3, jN, jN, jN, jN, jN] (r.toList ++ [jI x3]) μ Q)) : J l z X (d + 3) mX10_layHalves (0, 0) 2 [jR 96, jI x1, jI x2, jI x3, jN, jN, jN, jN, jN] [] (jG, M) Q :=
  (J_iload_n dX10_layHalves_2 rfl (J_aload_n dX10_layHalves_3 rfl (J_iconst dX10_layHalves_4 jc_0 (J_iload_n dX10_layHalves_5 rfl (J_callV (a1 := (0, 0)) (a2 := (0, 0)) (mm' := mX10_manyAt) (S := [jI x3]) [jI 0, jI x1] md_X10_manyAt im_X10_manyAt se_X10_manyAt dX10_layHalves_6 wm_X10_222 jcl_X10.1 rfl g_96 rfl rfl (Nat.le_of_ble_eq_true rfl) (Nat.le_of_ble_eq_true rfl) rfl k1)))))
theorem b_X10_layHalves_9 {l : Launch} {z d : Nat} {X : jX} {M : Nat → Int → Int} {Q : Option jV → jM → Prop} {x1 : Int} {x2 : Int} {x3 : Int} {t0 : Int} {t1 : Int}   (k1 : t1 ≤ t0 → Q none (jG, M)) (k2 : t0 < t1 → J l z X (d + 3) mX10_layHalves (0, 0) 15 [jR 96, jI x1, jI x2, jI x3, jI 0, jN, jN, jN, jN] [] (jG, M) Q) : J l z X (d + 3) mX10_layHalves (0, 0) 9 [jR 96, jI x1, jI x2, jI x3, jN, jN, jN, jN, jN] [jI t1, jI t0] (jG, M) Q :=
  (J_icmp_ge dX10_layHalves_9 (tgt := 143) (by decide) (fun c1 => (J_vret dX10_layHalves_143 rfl (k1 c1))) (fun c1 => (J_iconst dX10_layHalves_12 jc_0 (J_istore dX10_layHalves_13 (Nat.le_of_ble_eq_true rfl) (k2 c1)))))
theorem b_X10_layHalves_15 {l : Launch} {z d : Nat} {X : jX} {M : Nat → Int → Int} {Q : Option jV → jM → Prop} {x1 : Int} {x2 : Int} {x3 : Int} {x4 : Int}   (k1 : J l z X (d + 2) mX10_manyAt (0, 0) 0 [jR 96, jI 1, jI x1] [] (jG, M) (fun r μ => J l z X (d + 3) mX10_layHalves (0, 0) 23 [jR 96, jI x1, jI x2, jI x3, jI x4, jN, jN, jN, jN] (r.toList ++ [jI x4]) μ Q)) : J l z X (d + 3) mX10_layHalves (0, 0) 15 [jR 96, jI x1, jI x2, jI x3, jI x4, jN, jN, jN, jN] [] (jG, M) Q :=
  (J_iload dX10_layHalves_15 rfl (J_aload_n dX10_layHalves_17 rfl (J_iconst dX10_layHalves_18 jc_1 (J_iload_n dX10_layHalves_19 rfl (J_callV (a1 := (0, 0)) (a2 := (0, 0)) (mm' := mX10_manyAt) (S := [jI x4]) [jI 1, jI x1] md_X10_manyAt im_X10_manyAt se_X10_manyAt dX10_layHalves_20 wm_X10_222 jcl_X10.1 rfl g_96 rfl rfl (Nat.le_of_ble_eq_true rfl) (Nat.le_of_ble_eq_true rfl) rfl k1)))))
theorem b_X10_layHalves_23 {l : Launch} {z d : Nat} {X : jX} {M : Nat → Int → Int} {Q : Option jV → jM → Prop} {x1 : Int} {x2 : Int} {x3 : Int} {x4 : Int} {t0 : Int} {t1 : Int}  (s1 : t1 ≤ t0 → jIn (x3 + 1)) (k1 : t1 ≤ t0 → J l z X (d + 3) mX10_layHalves (0, 0) 2 [jR 96, jI x1, jI x2, jI (x3 + 1), jN, jN, jN, jN, jN] [] (jG, M) Q) (k2 : t0 < t1 → J l z X (d + 3) mX10_layHalves (0, 0) 29 [jR 96, jI x1, jI x2, jI x3, jI x4, jI 0, jN, jN, jN] [] (jG, M) Q) : J l z X (d + 3) mX10_layHalves (0, 0) 23 [jR 96, jI x1, jI x2, jI x3, jI x4, jN, jN, jN, jN] [jI t1, jI t0] (jG, M) Q :=
  (J_icmp_ge dX10_layHalves_23 (tgt := 137) (by decide) (fun c1 => (J_iinc dX10_layHalves_137 rfl jc_1 (s1 c1) (J_goto dX10_layHalves_140 (tgt := 2) (by decide) (J_weak [jR 96, jI x1, jI x2, jI (x3 + 1), jN, jN, jN, jN, jN] ⟨Or.inr rfl, Or.inr rfl, Or.inr rfl, Or.inr rfl, Or.inl rfl, Or.inr rfl, Or.inr rfl, Or.inr rfl, Or.inr rfl, trivial⟩ (k1 c1))))) (fun c1 => (J_iconst dX10_layHalves_26 jc_0 (J_istore dX10_layHalves_27 (Nat.le_of_ble_eq_true rfl) (k2 c1)))))
theorem b_X10_layHalves_29 {l : Launch} {z d : Nat} {X : jX} {M : Nat → Int → Int} {Q : Option jV → jM → Prop} {x1 : Int} {x2 : Int} {x3 : Int} {x4 : Int} {x5 : Int}   (k1 : J l z X (d + 2) mX10_manyAt (0, 0) 0 [jR 96, jI 2, jI x1] [] (jG, M) (fun r μ => J l z X (d + 3) mX10_layHalves (0, 0) 37 [jR 96, jI x1, jI x2, jI x3, jI x4, jI x5, jN, jN, jN] (r.toList ++ [jI x5]) μ Q)) : J l z X (d + 3) mX10_layHalves (0, 0) 29 [jR 96, jI x1, jI x2, jI x3, jI x4, jI x5, jN, jN, jN] [] (jG, M) Q :=
  (J_iload dX10_layHalves_29 rfl (J_aload_n dX10_layHalves_31 rfl (J_iconst dX10_layHalves_32 jc_2 (J_iload_n dX10_layHalves_33 rfl (J_callV (a1 := (0, 0)) (a2 := (0, 0)) (mm' := mX10_manyAt) (S := [jI x5]) [jI 2, jI x1] md_X10_manyAt im_X10_manyAt se_X10_manyAt dX10_layHalves_34 wm_X10_222 jcl_X10.1 rfl g_96 rfl rfl (Nat.le_of_ble_eq_true rfl) (Nat.le_of_ble_eq_true rfl) rfl k1)))))
theorem b_X10_layHalves_37 {l : Launch} {z d : Nat} {X : jX} {M : Nat → Int → Int} {Q : Option jV → jM → Prop} {x1 : Int} {x2 : Int} {x3 : Int} {x4 : Int} {x5 : Int} {t0 : Int} {t1 : Int}  (s1 : t1 ≤ t0 → jIn (x4 + 1)) (k1 : t1 ≤ t0 → J l z X (d + 3) mX10_layHalves (0, 0) 15 [jR 96, jI x1, jI x2, jI x3, jI (x4 + 1), jN, jN, jN, jN] [] (jG, M) Q) (k2 : t0 < t1 → x1 ≠ 0 → J l z X (d + 3) mX10_layHalves (0, 0) 51 [jR 96, jI x1, jI x2, jI x3, jI x4, jI x5, jN, jN, jN] [jI 1000] (jG, M) Q) (k3 : t0 < t1 → x1 = 0 → J l z X (d + 3) mX10_layHalves (0, 0) 51 [jR 96, jI x1, jI x2, jI x3, jI x4, jI x5, jN, jN, jN] [jI 0] (jG, M) Q) : J l z X (d + 3) mX10_layHalves (0, 0) 37 [jR 96, jI x1, jI x2, jI x3, jI x4, jI x5, jN, jN, jN] [jI t1, jI t0] (jG, M) Q :=
  (J_icmp_ge dX10_layHalves_37 (tgt := 131) (by decide) (fun c1 => (J_iinc dX10_layHalves_131 rfl jc_1 (s1 c1) (J_goto dX10_layHalves_134 (tgt := 15) (by decide) (J_weak [jR 96, jI x1, jI x2, jI x3, jI (x4 + 1), jN, jN, jN, jN] ⟨Or.inr rfl, Or.inr rfl, Or.inr rfl, Or.inr rfl, Or.inr rfl, Or.inl rfl, Or.inr rfl, Or.inr rfl, Or.inr rfl, trivial⟩ (k1 c1))))) (fun c1 => (J_iload_n dX10_layHalves_40 rfl (J_if_ne dX10_layHalves_41 (tgt := 48) (by decide) (fun c2 => (J_sipush dX10_layHalves_48 jc_1000 jsp_1000 (k2 c1 c2))) (fun c2 => (J_iconst dX10_layHalves_44 jc_0 (J_goto dX10_layHalves_45 (tgt := 51) (by decide) (k3 c1 c2))))))))
theorem b_X10_layHalves_51 {l : Launch} {z d : Nat} {X : jX} {M : Nat → Int → Int} {Q : Option jV → jM → Prop} {x1 : Int} {x2 : Int} {x3 : Int} {x4 : Int} {x5 : Int} {t0 : Int}   (k1 : J l z X (d + 3) mX10_layHalves (0, 0) 56 [jR 96, jI x1, jI x2, jI x3, jI x4, jI x5, jI t0, jI 0, jN] [] (jG, M) Q) : J l z X (d + 3) mX10_layHalves (0, 0) 51 [jR 96, jI x1, jI x2, jI x3, jI x4, jI x5, jN, jN, jN] [jI t0] (jG, M) Q :=
  (J_istore dX10_layHalves_51 (Nat.le_of_ble_eq_true rfl) (J_iconst dX10_layHalves_53 jc_0 (J_istore dX10_layHalves_54 (Nat.le_of_ble_eq_true rfl) k1)))
theorem b_X10_layHalves_56 {l : Launch} {z d : Nat} {X : jX} {M : Nat → Int → Int} {Q : Option jV → jM → Prop} {x1 : Int} {x2 : Int} {x3 : Int} {x4 : Int} {x5 : Int} {x6 : Int} {x7 : Int}   (k1 : 27 ≤ x7 → J l z X (d + 3) mX10_layHalves (0, 0) 104 [jR 96, jI x1, jI x2, jI x3, jI x4, jI x5, jI x6, jI x7, jN] [] (jG, M) Q) (k2 : x7 < 27 → x1 ≤ 0 → J l z X (d + 3) mX10_layHalves (0, 0) 104 [jR 96, jI x1, jI x2, jI x3, jI x4, jI x5, jI x6, jI x7, jN] [] (jG, M) Q) (k3 : x7 < 27 → 0 < x1 → J l z X (d + 2) mX10_halvesBy (0, 0) 0 [jR 96, jI x3, jI x4, jI x5, jI x7, jI x2, jI x1, jN] [] (jG, M) (fun r μ => J l z X (d + 3) mX10_layHalves (0, 0) 80 [jR 96, jI x1, jI x2, jI x3, jI x4, jI x5, jI x6, jI x7, jN] (r.toList ++ []) μ Q)) : J l z X (d + 3) mX10_layHalves (0, 0) 56 [jR 96, jI x1, jI x2, jI x3, jI x4, jI x5, jI x6, jI x7, jN] [] (jG, M) Q :=
  (J_iload dX10_layHalves_56 rfl (J_bipush dX10_layHalves_58 jc_27 jb_27 (J_icmp_ge dX10_layHalves_60 (tgt := 104) (by decide) (fun c1 => (k1 c1)) (fun c1 => (J_iload_n dX10_layHalves_63 rfl (J_if_le dX10_layHalves_64 (tgt := 104) (by decide) (fun c2 => (k2 c1 c2)) (fun c2 => (J_aload_n dX10_layHalves_67 rfl (J_iload_n dX10_layHalves_68 rfl (J_iload dX10_layHalves_69 rfl (J_iload dX10_layHalves_71 rfl (J_iload dX10_layHalves_73 rfl (J_iload_n dX10_layHalves_75 rfl (J_iload_n dX10_layHalves_76 rfl (J_callV (a1 := (0, 0)) (a2 := (0, 0)) (mm' := mX10_halvesBy) (S := []) [jI x3, jI x4, jI x5, jI x7, jI x2, jI x1] md_X10_halvesBy im_X10_halvesBy se_X10_halvesBy dX10_layHalves_77 wm_X10_225 jcl_X10.1 rfl g_96 rfl rfl (Nat.le_of_ble_eq_true rfl) (Nat.le_of_ble_eq_true rfl) rfl (k3 c1 c2))))))))))))))))
theorem b_X10_layHalves_80 {l : Launch} {z d : Nat} {X : jX} {M : Nat → Int → Int} {Q : Option jV → jM → Prop} {x1 : Int} {x2 : Int} {x3 : Int} {x4 : Int} {x5 : Int} {x6 : Int} {x7 : Int} {t0 : Int}   (k1 : x6 ≤ t0 → J l z X (d + 3) mX10_layHalves (0, 0) 96 [jR 96, jI x1, jI x2, jI x3, jI x4, jI x5, jI x6, jI x7, jI t0] [jI x6] (jG, M) Q) (k2 : t0 < x6 → J l z X (d + 3) mX10_layHalves (0, 0) 96 [jR 96, jI x1, jI x2, jI x3, jI x4, jI x5, jI x6, jI x7, jI t0] [jI t0] (jG, M) Q) : J l z X (d + 3) mX10_layHalves (0, 0) 80 [jR 96, jI x1, jI x2, jI x3, jI x4, jI x5, jI x6, jI x7, jN] [jI t0] (jG, M) Q :=
  (J_istore dX10_layHalves_80 (Nat.le_of_ble_eq_true rfl) (J_iload dX10_layHalves_82 rfl (J_iload dX10_layHalves_84 rfl (J_icmp_ge dX10_layHalves_86 (tgt := 94) (by decide) (fun c1 => (J_iload dX10_layHalves_94 rfl (k1 c1))) (fun c1 => (J_iload dX10_layHalves_89 rfl (J_goto dX10_layHalves_91 (tgt := 96) (by decide) (k2 c1))))))))
theorem b_X10_layHalves_96 {l : Launch} {z d : Nat} {X : jX} {M : Nat → Int → Int} {Q : Option jV → jM → Prop} {x1 : Int} {x2 : Int} {x3 : Int} {x4 : Int} {x5 : Int} {x6 : Int} {x7 : Int} {x8 : Int} {t0 : Int}  (s1 : jIn (x7 + 1)) (k1 : J l z X (d + 3) mX10_layHalves (0, 0) 56 [jR 96, jI x1, jI x2, jI x3, jI x4, jI x5, jI t0, jI (x7 + 1), jN] [] (jG, M) Q) : J l z X (d + 3) mX10_layHalves (0, 0) 96 [jR 96, jI x1, jI x2, jI x3, jI x4, jI x5, jI x6, jI x7, jI x8] [jI t0] (jG, M) Q :=
  (J_istore dX10_layHalves_96 (Nat.le_of_ble_eq_true rfl) (J_iinc dX10_layHalves_98 rfl jc_1 s1 (J_goto dX10_layHalves_101 (tgt := 56) (by decide) (J_weak [jR 96, jI x1, jI x2, jI x3, jI x4, jI x5, jI t0, jI (x7 + 1), jN] ⟨Or.inr rfl, Or.inr rfl, Or.inr rfl, Or.inr rfl, Or.inr rfl, Or.inr rfl, Or.inr rfl, Or.inr rfl, Or.inl rfl, trivial⟩ k1))))
theorem b_X10_layHalves_104 {l : Launch} {z d : Nat} {X : jX} {M : Nat → Int → Int} {Q : Option jV → jM → Prop} {x1 : Int} {x2 : Int} {x3 : Int} {x4 : Int} {x5 : Int} {x6 : Int} {x7 : Int}  (s1 : jIn (17576 * x1)) (s2 : 0 ≤ x3 ∧ x3 ≤ 26 ∧ 0 ≤ x4 ∧ x4 ≤ 26 ∧ 0 ≤ x5 ∧ x5 ≤ 26) (s3 : jIn ((17576 * x1) + (26 * (26 * x3 + x4) + x5))) (s4 : 0 ≤ ((17576 * x1) + (26 * (26 * x3 + x4) + x5))) (s5 : ((17576 * x1) + (26 * (26 * x3 + x4) + x5)) < 123032) (s6 : jIn (x5 + 1)) (k1 : J l z X (d + 3) mX10_layHalves (0, 0) 29 [jR 96, jI x1, jI x2, jI x3, jI x4, jI (x5 + 1), jN, jN, jN] [] (jG, (jupd M 114 ((17576 * x1) + (26 * (26 * x3 + x4) + x5)) x6)) Q) : J l z X (d + 3) mX10_layHalves (0, 0) 104 [jR 96, jI x1, jI x2, jI x3, jI x4, jI x5, jI x6, jI x7, jN] [] (jG, M) Q :=
  (J_aload_n dX10_layHalves_104 rfl (J_getR (k := 29) jcl_X10 dX10_layHalves_105 wf_X10_62 g_96 (Nat.le_of_ble_eq_true rfl) rfl rfl (J_sipush dX10_layHalves_108 jc_17576 jsp_17576 (J_iload_n dX10_layHalves_111 rfl (J_imul dX10_layHalves_112 s1 (J_iload_n dX10_layHalves_113 rfl (J_iload dX10_layHalves_114 rfl (J_iload dX10_layHalves_116 rfl (J_callS (a1 := (0, 0)) (a2 := (0, 0)) (mm' := mX10_stateOf) (S := [jI (17576 * x1), jR 114]) [jI x3, jI x4, jI x5] md_X10_stateOf is_X10_stateOf dX10_layHalves_118 wm_X10_212 rfl rfl (Nat.le_of_ble_eq_true rfl) (Nat.le_of_ble_eq_true rfl) rfl (c_X10_stateOf  s2 (J_iadd dX10_layHalves_121 s3 (J_iload dX10_layHalves_122 rfl (J_iast dX10_layHalves_124 g_114 s4 s5 (J_iinc dX10_layHalves_125 rfl jc_1 s6 (J_goto dX10_layHalves_128 (tgt := 29) (by decide) (J_weak [jR 96, jI x1, jI x2, jI x3, jI x4, jI (x5 + 1), jN, jN, jN] ⟨Or.inr rfl, Or.inr rfl, Or.inr rfl, Or.inr rfl, Or.inr rfl, Or.inr rfl, Or.inl rfl, Or.inl rfl, Or.inr rfl, trivial⟩ k1))))))))))))))))
theorem b_X10_findPlan_0 {l : Launch} {z d : Nat} {X : jX} {M : Nat → Int → Int} {Q : Option jV → jM → Prop} {x1 : Int} {x2 : Int} {x3 : Int} {x4 : Int}   (k1 : J l z X (d + 4) mX10_findPlan (0, 0) 6 [jR 96, jI x1, jI x2, jI x3, jI x4, jI 0, jI 0] [] (jG, M) Q) : J l z X (d + 4) mX10_findPlan (0, 0) 0 [jR 96, jI x1, jI x2, jI x3, jI x4, jN, jN] [] (jG, M) Q :=
  (J_iconst dX10_findPlan_0 jc_0 (J_istore dX10_findPlan_1 (Nat.le_of_ble_eq_true rfl) (J_iconst dX10_findPlan_3 jc_0 (J_istore dX10_findPlan_4 (Nat.le_of_ble_eq_true rfl) k1))))
theorem b_X10_findPlan_6 {l : Launch} {z d : Nat} {X : jX} {M : Nat → Int → Int} {Q : Option jV → jM → Prop} {x1 : Int} {x2 : Int} {x3 : Int} {x4 : Int} {x5 : Int} {x6 : Int}  (s1 : x6 < 3 → 0 ≤ x6) (s2 : x6 < 3 → x6 < 3) (s3 : x6 < 3 → jIn (x6 + 1)) (k1 : 3 ≤ x6 → J l z X (d + 4) mX10_findPlan (0, 0) 30 [jR 96, jI x1, jI x2, jI x3, jI x4, jI x5, jI 0] [] (jG, M) Q) (k2 : x6 < 3 → J l z X (d + 4) mX10_findPlan (0, 0) 6 [jR 96, jI x1, jI x2, jI x3, jI x4, jI x5, jI (x6 + 1)] [] (jG, (jupd M 110 x6 (-6))) Q) : J l z X (d + 4) mX10_findPlan (0, 0) 6 [jR 96, jI x1, jI x2, jI x3, jI x4, jI x5, jI x6] [] (jG, M) Q :=
  (J_iload dX10_findPlan_6 rfl (J_iconst dX10_findPlan_8 jc_3 (J_icmp_ge dX10_findPlan_9 (tgt := 27) (by decide) (fun c1 => (J_iconst dX10_findPlan_27 jc_0 (J_istore dX10_findPlan_28 (Nat.le_of_ble_eq_true rfl) (k1 c1)))) (fun c1 => (J_aload_n dX10_findPlan_12 rfl (J_getR (k := 25) jcl_X10 dX10_findPlan_13 wf_X10_49 g_96 (Nat.le_of_ble_eq_true rfl) rfl rfl (J_iload dX10_findPlan_16 rfl (J_bipush dX10_findPlan_18 jc_m6 jb_m6 (J_iast dX10_findPlan_20 g_110 (s1 c1) (s2 c1) (J_iinc dX10_findPlan_21 rfl jc_1 (s3 c1) (J_goto dX10_findPlan_24 (tgt := 6) (by decide) (k2 c1))))))))))))
theorem b_X10_findPlan_30 {l : Launch} {z d : Nat} {X : jX} {M : Nat → Int → Int} {Q : Option jV → jM → Prop} {x1 : Int} {x2 : Int} {x3 : Int} {x4 : Int} {x5 : Int} {x6 : Int}  (s1 : x6 < 6 → (jand (jshr x1 x6) 1) = 1 → 0 ≤ x5) (s2 : x6 < 6 → (jand (jshr x1 x6) 1) = 1 → x5 < 3) (s3 : x6 < 6 → (jand (jshr x1 x6) 1) = 1 → jIn (x5 + 1)) (k1 : 6 ≤ x6 → J l z X (d + 4) mX10_findPlan (0, 0) 68 [jR 96, jI x1, jI x2, jI x3, jI x4, jI x5, jI 0] [] (jG, M) Q) (k2 : x6 < 6 → (jand (jshr x1 x6) 1) ≠ 1 → J l z X (d + 4) mX10_findPlan (0, 0) 59 [jR 96, jI x1, jI x2, jI x3, jI x4, jI x5, jI x6] [] (jG, M) Q) (k3 : x6 < 6 → (jand (jshr x1 x6) 1) = 1 → J l z X (d + 4) mX10_findPlan (0, 0) 59 [jR 96, jI x1, jI x2, jI x3, jI x4, jI (x5 + 1), jI x6] [] (jG, (jupd M 110 x5 x6)) Q) : J l z X (d + 4) mX10_findPlan (0, 0) 30 [jR 96, jI x1, jI x2, jI x3, jI x4, jI x5, jI x6] [] (jG, M) Q :=
  (J_iload dX10_findPlan_30 rfl (J_bipush dX10_findPlan_32 jc_6 jb_6 (J_icmp_ge dX10_findPlan_34 (tgt := 65) (by decide) (fun c1 => (J_iconst dX10_findPlan_65 jc_0 (J_istore dX10_findPlan_66 (Nat.le_of_ble_eq_true rfl) (k1 c1)))) (fun c1 => (J_iload_n dX10_findPlan_37 rfl (J_iload dX10_findPlan_38 rfl (J_ishr dX10_findPlan_40 (J_iconst dX10_findPlan_41 jc_1 (J_iand dX10_findPlan_42 (J_iconst dX10_findPlan_43 jc_1 (J_icmp_ne dX10_findPlan_44 (tgt := 59) (by decide) (fun c2 => (k2 c1 c2)) (fun c2 => (J_aload_n dX10_findPlan_47 rfl (J_getR (k := 25) jcl_X10 dX10_findPlan_48 wf_X10_49 g_96 (Nat.le_of_ble_eq_true rfl) rfl rfl (J_iload dX10_findPlan_51 rfl (J_iload dX10_findPlan_53 rfl (J_iast dX10_findPlan_55 g_110 (s1 c1 c2) (s2 c1 c2) (J_iinc dX10_findPlan_56 rfl jc_1 (s3 c1 c2) (k3 c1 c2)))))))))))))))))))
theorem b_X10_findPlan_59 {l : Launch} {z d : Nat} {X : jX} {M : Nat → Int → Int} {Q : Option jV → jM → Prop} {x1 : Int} {x2 : Int} {x3 : Int} {x4 : Int} {x5 : Int} {x6 : Int}  (s1 : jIn (x6 + 1)) (k1 : J l z X (d + 4) mX10_findPlan (0, 0) 30 [jR 96, jI x1, jI x2, jI x3, jI x4, jI x5, jI (x6 + 1)] [] (jG, M) Q) : J l z X (d + 4) mX10_findPlan (0, 0) 59 [jR 96, jI x1, jI x2, jI x3, jI x4, jI x5, jI x6] [] (jG, M) Q :=
  (J_iinc dX10_findPlan_59 rfl jc_1 s1 (J_goto dX10_findPlan_62 (tgt := 30) (by decide) k1))
theorem b_X10_findPlan_68 {l : Launch} {z d : Nat} {X : jX} {M : Nat → Int → Int} {Q : Option jV → jM → Prop} {x1 : Int} {x2 : Int} {x3 : Int} {x4 : Int} {x5 : Int} {x6 : Int}   (k1 : 3 ≤ x6 → J l z X (d + 4) mX10_findPlan (0, 0) 92 [jR 96, jI x1, jI x2, jI x3, jI x4, jI x5, jI 0] [] (jG, M) Q) (k2 : x6 < 3 → J l z X (d + 3) mX10_layAges (0, 0) 0 [jR 96, jI x6, jI x2, jI x4, jN, jN, jN, jN] [] (jG, M) (fun r μ => J l z X (d + 4) mX10_findPlan (0, 0) 83 [jR 96, jI x1, jI x2, jI x3, jI x4, jI x5, jI x6] (r.toList ++ []) μ Q)) : J l z X (d + 4) mX10_findPlan (0, 0) 68 [jR 96, jI x1, jI x2, jI x3, jI x4, jI x5, jI x6] [] (jG, M) Q :=
  (J_iload dX10_findPlan_68 rfl (J_iconst dX10_findPlan_70 jc_3 (J_icmp_ge dX10_findPlan_71 (tgt := 89) (by decide) (fun c1 => (J_iconst dX10_findPlan_89 jc_0 (J_istore dX10_findPlan_90 (Nat.le_of_ble_eq_true rfl) (k1 c1)))) (fun c1 => (J_aload_n dX10_findPlan_74 rfl (J_iload dX10_findPlan_75 rfl (J_iload_n dX10_findPlan_77 rfl (J_iload dX10_findPlan_78 rfl (J_callV (a1 := (0, 0)) (a2 := (0, 0)) (mm' := mX10_layAges) (S := []) [jI x6, jI x2, jI x4] md_X10_layAges im_X10_layAges se_X10_layAges dX10_findPlan_80 wm_X10_229 jcl_X10.1 rfl g_96 rfl rfl (Nat.le_of_ble_eq_true rfl) (Nat.le_of_ble_eq_true rfl) rfl (k2 c1))))))))))
theorem b_X10_findPlan_83 {l : Launch} {z d : Nat} {X : jX} {M : Nat → Int → Int} {Q : Option jV → jM → Prop} {x1 : Int} {x2 : Int} {x3 : Int} {x4 : Int} {x5 : Int} {x6 : Int}  (s1 : jIn (x6 + 1)) (k1 : J l z X (d + 4) mX10_findPlan (0, 0) 68 [jR 96, jI x1, jI x2, jI x3, jI x4, jI x5, jI (x6 + 1)] [] (jG, M) Q) : J l z X (d + 4) mX10_findPlan (0, 0) 83 [jR 96, jI x1, jI x2, jI x3, jI x4, jI x5, jI x6] [] (jG, M) Q :=
  (J_iinc dX10_findPlan_83 rfl jc_1 s1 (J_goto dX10_findPlan_86 (tgt := 68) (by decide) k1))
theorem b_X10_findPlan_92 {l : Launch} {z d : Nat} {X : jX} {M : Nat → Int → Int} {Q : Option jV → jM → Prop} {x1 : Int} {x2 : Int} {x3 : Int} {x4 : Int} {x5 : Int} {x6 : Int}   (k1 : x2 < x6 → Q none (jG, M)) (k2 : x6 ≤ x2 → J l z X (d + 3) mX10_layHalves (0, 0) 0 [jR 96, jI x6, jI x3, jN, jN, jN, jN, jN, jN] [] (jG, M) (fun r μ => J l z X (d + 4) mX10_findPlan (0, 0) 105 [jR 96, jI x1, jI x2, jI x3, jI x4, jI x5, jI x6] (r.toList ++ []) μ Q)) : J l z X (d + 4) mX10_findPlan (0, 0) 92 [jR 96, jI x1, jI x2, jI x3, jI x4, jI x5, jI x6] [] (jG, M) Q :=
  (J_iload dX10_findPlan_92 rfl (J_iload_n dX10_findPlan_94 rfl (J_icmp_gt dX10_findPlan_95 (tgt := 111) (by decide) (fun c1 => (J_vret dX10_findPlan_111 rfl (k1 c1))) (fun c1 => (J_aload_n dX10_findPlan_98 rfl (J_iload dX10_findPlan_99 rfl (J_iload_n dX10_findPlan_101 rfl (J_callV (a1 := (0, 0)) (a2 := (0, 0)) (mm' := mX10_layHalves) (S := []) [jI x6, jI x3] md_X10_layHalves im_X10_layHalves se_X10_layHalves dX10_findPlan_102 wm_X10_232 jcl_X10.1 rfl g_96 rfl rfl (Nat.le_of_ble_eq_true rfl) (Nat.le_of_ble_eq_true rfl) rfl (k2 c1)))))))))
theorem b_X10_findPlan_105 {l : Launch} {z d : Nat} {X : jX} {M : Nat → Int → Int} {Q : Option jV → jM → Prop} {x1 : Int} {x2 : Int} {x3 : Int} {x4 : Int} {x5 : Int} {x6 : Int}  (s1 : jIn (x6 + 1)) (k1 : J l z X (d + 4) mX10_findPlan (0, 0) 92 [jR 96, jI x1, jI x2, jI x3, jI x4, jI x5, jI (x6 + 1)] [] (jG, M) Q) : J l z X (d + 4) mX10_findPlan (0, 0) 105 [jR 96, jI x1, jI x2, jI x3, jI x4, jI x5, jI x6] [] (jG, M) Q :=
  (J_iinc dX10_findPlan_105 rfl jc_1 s1 (J_goto dX10_findPlan_108 (tgt := 92) (by decide) k1))
theorem b_X10_planRefusal_0 {l : Launch} {z d : Nat} {X : jX} {M : Nat → Int → Int} {Q : Option jV → jM → Prop} {x1 : Int} {x2 : Int} {x3 : Int} {x4 : Int}  (s1 : 0 ≤ x1 ∧ x1 ≤ 63 → (jand x1 (jxor (M 96 0) (-1))) = 0 → 0 ≤ x2 ∧ x2 ≤ 6 → 0 ≤ x3 ∧ x3 ≤ 6 → 0 ≤ x4 ∧ x4 ≤ 99 → 0 ≤ x1 ∧ x1 < 128) (k1 : 0 ≤ x1 ∧ x1 ≤ 63 → (jand x1 (jxor (M 96 0) (-1))) = 0 → 0 ≤ x2 ∧ x2 ≤ 6 → 0 ≤ x3 ∧ x3 ≤ 6 → 0 ≤ x4 ∧ x4 ≤ 99 → (popc x1) ≤ 3 → Q (some (jI 0)) (jG, M)) (k2 : 0 ≤ x1 ∧ x1 ≤ 63 → (jand x1 (jxor (M 96 0) (-1))) = 0 → 0 ≤ x2 ∧ x2 ≤ 6 → 0 ≤ x3 ∧ x3 ≤ 6 → 0 ≤ x4 ∧ x4 ≤ 99 → 3 < (popc x1) → Q (some (jI (-4))) (jG, M)) (k3 : 0 ≤ x1 ∧ x1 ≤ 63 → (jand x1 (jxor (M 96 0) (-1))) = 0 → 0 ≤ x2 ∧ x2 ≤ 6 → 0 ≤ x3 ∧ x3 ≤ 6 → ¬ (0 ≤ x4 ∧ x4 ≤ 99) → Q (some (jI (-2))) (jG, M)) (k4 : 0 ≤ x1 ∧ x1 ≤ 63 → (jand x1 (jxor (M 96 0) (-1))) = 0 → 0 ≤ x2 ∧ x2 ≤ 6 → ¬ (0 ≤ x3 ∧ x3 ≤ 6) → Q (some (jI (-2))) (jG, M)) (k5 : 0 ≤ x1 ∧ x1 ≤ 63 → (jand x1 (jxor (M 96 0) (-1))) = 0 → ¬ (0 ≤ x2 ∧ x2 ≤ 6) → Q (some (jI (-2))) (jG, M)) (k6 : 0 ≤ x1 ∧ x1 ≤ 63 → (jand x1 (jxor (M 96 0) (-1))) ≠ 0 → Q (some (jI (-1))) (jG, M)) (k7 : ¬ (0 ≤ x1 ∧ x1 ≤ 63) → Q (some (jI (-1))) (jG, M)) : J l z X (d + 1) mX10_planRefusal (0, 0) 0 [jR 96, jI x1, jI x2, jI x3, jI x4] [] (jG, M) Q :=
  (J_iload_n dX10_planRefusal_0 rfl (J_i2l dX10_planRefusal_1 (J_lconst dX10_planRefusal_2 jlc_0 jlv_0 (J_ldc2 dX10_planRefusal_3 (lw_X10_235) lcl_X10_235 rfl (J_callS (a1 := (0, 0)) (a2 := (0, 0)) (mm' := mX10_in) (S := []) [jL x1, jL 0, jL 63] md_X10_in is_X10_in dX10_planRefusal_6 wm_X10_94 rfl rfl (Nat.le_of_ble_eq_true rfl) (Nat.le_of_ble_eq_true rfl) rfl (c_X10_in   (fun c1 => (J_if_eq dX10_planRefusal_9 (tgt := 23) (by decide) (fun c => absurd c (by decide)) (fun _ => (J_iload_n dX10_planRefusal_12 rfl (J_aload_n dX10_planRefusal_13 rfl (J_getI (k := 0) (kz := 0) jcl_X10 dX10_planRefusal_14 wf_X10_98 g_96 (Nat.le_of_ble_eq_true rfl) rfl rfl (J_iconst dX10_planRefusal_17 jc_m1 (J_ixor dX10_planRefusal_18 (J_iand dX10_planRefusal_19 (J_if_eq dX10_planRefusal_20 (tgt := 25) (by decide) (fun c2 => (J_iload_n dX10_planRefusal_25 rfl (J_i2l dX10_planRefusal_26 (J_lconst dX10_planRefusal_27 jlc_0 jlv_0 (J_ldc2 dX10_planRefusal_28 (lw_X10_237) lcl_X10_237 rfl (J_callS (a1 := (0, 0)) (a2 := (0, 0)) (mm' := mX10_in) (S := []) [jL x2, jL 0, jL 6] md_X10_in is_X10_in dX10_planRefusal_31 wm_X10_94 rfl rfl (Nat.le_of_ble_eq_true rfl) (Nat.le_of_ble_eq_true rfl) rfl (c_X10_in   (fun c3 => (J_if_eq dX10_planRefusal_34 (tgt := 62) (by decide) (fun c => absurd c (by decide)) (fun _ => (J_iload_n dX10_planRefusal_37 rfl (J_i2l dX10_planRefusal_38 (J_lconst dX10_planRefusal_39 jlc_0 jlv_0 (J_ldc2 dX10_planRefusal_40 (lw_X10_237) lcl_X10_237 rfl (J_callS (a1 := (0, 0)) (a2 := (0, 0)) (mm' := mX10_in) (S := []) [jL x3, jL 0, jL 6] md_X10_in is_X10_in dX10_planRefusal_43 wm_X10_94 rfl rfl (Nat.le_of_ble_eq_true rfl) (Nat.le_of_ble_eq_true rfl) rfl (c_X10_in   (fun c4 => (J_if_eq dX10_planRefusal_46 (tgt := 62) (by decide) (fun c => absurd c (by decide)) (fun _ => (J_iload dX10_planRefusal_49 rfl (J_i2l dX10_planRefusal_51 (J_lconst dX10_planRefusal_52 jlc_0 jlv_0 (J_ldc2 dX10_planRefusal_53 (lw_X10_101) lcl_X10_101 rfl (J_callS (a1 := (0, 0)) (a2 := (0, 0)) (mm' := mX10_in) (S := []) [jL x4, jL 0, jL 99] md_X10_in is_X10_in dX10_planRefusal_56 wm_X10_94 rfl rfl (Nat.le_of_ble_eq_true rfl) (Nat.le_of_ble_eq_true rfl) rfl (c_X10_in   (fun c5 => (J_if_ne dX10_planRefusal_59 (tgt := 65) (by decide) (fun _ => (J_iload_n dX10_planRefusal_65 rfl (J_callS (a1 := (0, 0)) (a2 := (0, 0)) (mm' := mX10_ones) (S := []) [jI x1] md_X10_ones is_X10_ones dX10_planRefusal_66 wm_X10_105 rfl rfl (Nat.le_of_ble_eq_true rfl) (Nat.le_of_ble_eq_true rfl) rfl (c_X10_ones  (s1 c1 c2 c3 c4 c5) (J_iconst dX10_planRefusal_69 jc_3 (J_icmp_le dX10_planRefusal_70 (tgt := 78) (by decide) (fun c6 => (J_iconst dX10_planRefusal_78 jc_0 (J_iret dX10_planRefusal_79 rfl (k1 c1 c2 c3 c4 c5 c6)))) (fun c6 => (J_bipush dX10_planRefusal_73 jc_m4 jb_m4 (J_goto dX10_planRefusal_75 (tgt := 79) (by decide) (J_iret dX10_planRefusal_79 rfl (k2 c1 c2 c3 c4 c5 c6))))))))))) (fun c => absurd c (by decide)))) (fun c5 => (J_if_ne dX10_planRefusal_59 (tgt := 65) (by decide) (fun c => absurd c (by decide)) (fun _ => (J_bipush dX10_planRefusal_62 jc_m2 jb_m2 (J_iret dX10_planRefusal_64 rfl (k3 c1 c2 c3 c4 c5))))))))))))))) (fun c4 => (J_if_eq dX10_planRefusal_46 (tgt := 62) (by decide) (fun _ => (J_bipush dX10_planRefusal_62 jc_m2 jb_m2 (J_iret dX10_planRefusal_64 rfl (k4 c1 c2 c3 c4)))) (fun c => absurd c (by decide))))))))))))) (fun c3 => (J_if_eq dX10_planRefusal_34 (tgt := 62) (by decide) (fun _ => (J_bipush dX10_planRefusal_62 jc_m2 jb_m2 (J_iret dX10_planRefusal_64 rfl (k5 c1 c2 c3)))) (fun c => absurd c (by decide))))))))))) (fun c2 => (J_iconst dX10_planRefusal_23 jc_m1 (J_iret dX10_planRefusal_24 rfl (k6 c1 c2)))))))))))))) (fun c1 => (J_if_eq dX10_planRefusal_9 (tgt := 23) (by decide) (fun _ => (J_iconst dX10_planRefusal_23 jc_m1 (J_iret dX10_planRefusal_24 rfl (k7 c1)))) (fun c => absurd c (by decide))))))))))
theorem b_X10_keeps_0 {l : Launch} {z d : Nat} {X : jX} {M : Nat → Int → Int} {Q : Option jV → jM → Prop} {x1 : Int} {x2 : Int} {x3 : Int} {x4 : Int}   (k1 : J l z X (d + 4) mX10_planRefusal (0, 0) 0 [jR 96, jI x1, jI x2, jI x3, jI x4] [] (jG, M) (fun r μ => J l z X (d + 5) mX10_keeps (0, 0) 9 [jR 96, jI x1, jI x2, jI x3, jI x4, jN, jN] (r.toList ++ []) μ Q)) : J l z X (d + 5) mX10_keeps (0, 0) 0 [jR 96, jI x1, jI x2, jI x3, jI x4, jN, jN] [] (jG, M) Q :=
  (J_aload_n dX10_keeps_0 rfl (J_iload_n dX10_keeps_1 rfl (J_iload_n dX10_keeps_2 rfl (J_iload_n dX10_keeps_3 rfl (J_iload dX10_keeps_4 rfl (J_callV (a1 := (0, 0)) (a2 := (0, 0)) (mm' := mX10_planRefusal) (S := []) [jI x1, jI x2, jI x3, jI x4] md_X10_planRefusal im_X10_planRefusal se_X10_planRefusal dX10_keeps_6 wm_X10_239 jcl_X10.1 rfl g_96 rfl rfl (Nat.le_of_ble_eq_true rfl) (Nat.le_of_ble_eq_true rfl) rfl k1))))))
theorem b_X10_keeps_9 {l : Launch} {z d : Nat} {X : jX} {M : Nat → Int → Int} {Q : Option jV → jM → Prop} {x1 : Int} {x2 : Int} {x3 : Int} {x4 : Int} {t0 : Int}   (k1 : 0 ≤ t0 → J l z X (d + 4) mX10_findPlan (0, 0) 0 [jR 96, jI x1, jI x2, jI x3, jI x4, jN, jN] [] (jG, M) (fun r μ => J l z X (d + 5) mX10_keeps (0, 0) 28 [jR 96, jI x1, jI x2, jI x3, jI x4, jI t0, jN] (r.toList ++ []) μ Q)) (k2 : t0 < 0 → Q (some (jI t0)) (jG, M)) : J l z X (d + 5) mX10_keeps (0, 0) 9 [jR 96, jI x1, jI x2, jI x3, jI x4, jN, jN] [jI t0] (jG, M) Q :=
  (J_istore dX10_keeps_9 (Nat.le_of_ble_eq_true rfl) (J_iload dX10_keeps_11 rfl (J_if_ge dX10_keeps_13 (tgt := 19) (by decide) (fun c1 => (J_aload_n dX10_keeps_19 rfl (J_iload_n dX10_keeps_20 rfl (J_iload_n dX10_keeps_21 rfl (J_iload_n dX10_keeps_22 rfl (J_iload dX10_keeps_23 rfl (J_callV (a1 := (0, 0)) (a2 := (0, 0)) (mm' := mX10_findPlan) (S := []) [jI x1, jI x2, jI x3, jI x4] md_X10_findPlan im_X10_findPlan se_X10_findPlan dX10_keeps_25 wm_X10_242 jcl_X10.1 rfl g_96 rfl rfl (Nat.le_of_ble_eq_true rfl) (Nat.le_of_ble_eq_true rfl) rfl (k1 c1)))))))) (fun c1 => (J_iload dX10_keeps_16 rfl (J_iret dX10_keeps_18 rfl (k2 c1)))))))
theorem b_X10_keeps_28 {l : Launch} {z d : Nat} {X : jX} {M : Nat → Int → Int} {Q : Option jV → jM → Prop} {x1 : Int} {x2 : Int} {x3 : Int} {x4 : Int} {x5 : Int}  (s1 : jIn (17576 * x2)) (s2 : 0 ≤ (17576 * x2)) (s3 : (17576 * x2) < 123032) (k1 : (M 114 (17576 * x2)) < 1000 → Q (some (jI (M 114 (17576 * x2)))) (jG, M)) (k2 : 1000 ≤ (M 114 (17576 * x2)) → Q (some (jI (-6))) (jG, M)) : J l z X (d + 5) mX10_keeps (0, 0) 28 [jR 96, jI x1, jI x2, jI x3, jI x4, jI x5, jN] [] (jG, M) Q :=
  (J_aload_n dX10_keeps_28 rfl (J_getR (k := 29) jcl_X10 dX10_keeps_29 wf_X10_62 g_96 (Nat.le_of_ble_eq_true rfl) rfl rfl (J_sipush dX10_keeps_32 jc_17576 jsp_17576 (J_iload_n dX10_keeps_35 rfl (J_imul dX10_keeps_36 s1 (J_iald dX10_keeps_37 g_114 s2 s3 (J_istore dX10_keeps_38 (Nat.le_of_ble_eq_true rfl) (J_iload dX10_keeps_40 rfl (J_sipush dX10_keeps_42 jc_1000 jsp_1000 (J_icmp_lt dX10_keeps_45 (tgt := 53) (by decide) (fun c1 => (J_iload dX10_keeps_53 rfl (J_iret dX10_keeps_55 rfl (k1 c1)))) (fun c1 => (J_bipush dX10_keeps_48 jc_m6 jb_m6 (J_goto dX10_keeps_50 (tgt := 55) (by decide) (J_iret dX10_keeps_55 rfl (k2 c1)))))))))))))))
theorem b_X10_firstHow_0 {l : Launch} {z d : Nat} {X : jX} {M : Nat → Int → Int} {Q : Option jV → jM → Prop} {x1 : Int} {x2 : Int} {x3 : Int}  (s1 : 0 ≤ x1) (s2 : 0 ≤ (x1 / 26)) (k1 : J l z X (d + 3) mX10_firstHow (0, 0) 27 [jR 96, jI x1, jI x2, jI x3, jI ((x1 / 26) / 26), jI ((x1 / 26) % 26), jI (x1 % 26), jI 0] [] (jG, M) Q) : J l z X (d + 3) mX10_firstHow (0, 0) 0 [jR 96, jI x1, jI x2, jI x3, jN, jN, jN, jN] [] (jG, M) Q :=
  (J_iload_n dX10_firstHow_0 rfl (J_bipush dX10_firstHow_1 jc_26 jb_26 (J_idiv dX10_firstHow_3 s1 (by decide) (J_bipush dX10_firstHow_4 jc_26 jb_26 (J_idiv dX10_firstHow_6 s2 (by decide) (J_istore dX10_firstHow_7 (Nat.le_of_ble_eq_true rfl) (J_iload_n dX10_firstHow_9 rfl (J_bipush dX10_firstHow_10 jc_26 jb_26 (J_idiv dX10_firstHow_12 s1 (by decide) (J_bipush dX10_firstHow_13 jc_26 jb_26 (J_irem dX10_firstHow_15 s2 (by decide) (J_istore dX10_firstHow_16 (Nat.le_of_ble_eq_true rfl) (J_iload_n dX10_firstHow_18 rfl (J_bipush dX10_firstHow_19 jc_26 jb_26 (J_irem dX10_firstHow_21 s1 (by decide) (J_istore dX10_firstHow_22 (Nat.le_of_ble_eq_true rfl) (J_iconst dX10_firstHow_24 jc_0 (J_istore dX10_firstHow_25 (Nat.le_of_ble_eq_true rfl) k1))))))))))))))))))
theorem b_X10_firstHow_27 {l : Launch} {z d : Nat} {X : jX} {M : Nat → Int → Int} {Q : Option jV → jM → Prop} {x1 : Int} {x2 : Int} {x3 : Int} {x4 : Int} {x5 : Int} {x6 : Int} {x7 : Int}   (k1 : 27 ≤ x7 → Q (some (jI 0)) (jG, M)) (k2 : x7 < 27 → J l z X (d + 2) mX10_halvesBy (0, 0) 0 [jR 96, jI x4, jI x5, jI x6, jI x7, jI x2, jI x3, jN] [] (jG, M) (fun r μ => J l z X (d + 3) mX10_firstHow (0, 0) 48 [jR 96, jI x1, jI x2, jI x3, jI x4, jI x5, jI x6, jI x7] (r.toList ++ []) μ Q)) : J l z X (d + 3) mX10_firstHow (0, 0) 27 [jR 96, jI x1, jI x2, jI x3, jI x4, jI x5, jI x6, jI x7] [] (jG, M) Q :=
  (J_iload dX10_firstHow_27 rfl (J_bipush dX10_firstHow_29 jc_27 jb_27 (J_icmp_ge dX10_firstHow_31 (tgt := 72) (by decide) (fun c1 => (J_iconst dX10_firstHow_72 jc_0 (J_iret dX10_firstHow_73 rfl (k1 c1)))) (fun c1 => (J_aload_n dX10_firstHow_34 rfl (J_iload dX10_firstHow_35 rfl (J_iload dX10_firstHow_37 rfl (J_iload dX10_firstHow_39 rfl (J_iload dX10_firstHow_41 rfl (J_iload_n dX10_firstHow_43 rfl (J_iload_n dX10_firstHow_44 rfl (J_callV (a1 := (0, 0)) (a2 := (0, 0)) (mm' := mX10_halvesBy) (S := []) [jI x4, jI x5, jI x6, jI x7, jI x2, jI x3] md_X10_halvesBy im_X10_halvesBy se_X10_halvesBy dX10_firstHow_45 wm_X10_225 jcl_X10.1 rfl g_96 rfl rfl (Nat.le_of_ble_eq_true rfl) (Nat.le_of_ble_eq_true rfl) rfl (k2 c1)))))))))))))
theorem b_X10_firstHow_48 {l : Launch} {z d : Nat} {X : jX} {M : Nat → Int → Int} {Q : Option jV → jM → Prop} {x1 : Int} {x2 : Int} {x3 : Int} {x4 : Int} {x5 : Int} {x6 : Int} {x7 : Int} {t0 : Int}  (s1 : jIn (17576 * x3)) (s2 : jIn ((17576 * x3) + x1)) (s3 : 0 ≤ ((17576 * x3) + x1)) (s4 : ((17576 * x3) + x1) < 123032) (s5 : t0 ≠ (M 114 ((17576 * x3) + x1)) → jIn (x7 + 1)) (k1 : t0 ≠ (M 114 ((17576 * x3) + x1)) → J l z X (d + 3) mX10_firstHow (0, 0) 27 [jR 96, jI x1, jI x2, jI x3, jI x4, jI x5, jI x6, jI (x7 + 1)] [] (jG, M) Q) (k2 : t0 = (M 114 ((17576 * x3) + x1)) → Q (some (jI x7)) (jG, M)) : J l z X (d + 3) mX10_firstHow (0, 0) 48 [jR 96, jI x1, jI x2, jI x3, jI x4, jI x5, jI x6, jI x7] [jI t0] (jG, M) Q :=
  (J_aload_n dX10_firstHow_48 rfl (J_getR (k := 29) jcl_X10 dX10_firstHow_49 wf_X10_62 g_96 (Nat.le_of_ble_eq_true rfl) rfl rfl (J_sipush dX10_firstHow_52 jc_17576 jsp_17576 (J_iload_n dX10_firstHow_55 rfl (J_imul dX10_firstHow_56 s1 (J_iload_n dX10_firstHow_57 rfl (J_iadd dX10_firstHow_58 s2 (J_iald dX10_firstHow_59 g_114 s3 s4 (J_icmp_ne dX10_firstHow_60 (tgt := 66) (by decide) (fun c1 => (J_iinc dX10_firstHow_66 rfl jc_1 (s5 c1) (J_goto dX10_firstHow_69 (tgt := 27) (by decide) (k1 c1)))) (fun c1 => (J_iload dX10_firstHow_63 rfl (J_iret dX10_firstHow_65 rfl (k2 c1)))))))))))))
theorem b_X10_plan_0 {l : Launch} {z d : Nat} {X : jX} {M : Nat → Int → Int} {Q : Option jV → jM → Prop} {x1 : Int} {x2 : Int} {x3 : Int} {x4 : Int} {x5 : Int} {x6 : Int}   (k1 : J l z X (d + 4) mX10_planRefusal (0, 0) 0 [jR 96, jI x1, jI x2, jI x3, jI x4] [] (jG, M) (fun r μ => J l z X (d + 5) mX10_plan (0, 0) 9 [jR 96, jI x1, jI x2, jI x3, jI x4, jI x5, jI x6, jN, jN, jN, jN] (r.toList ++ []) μ Q)) : J l z X (d + 5) mX10_plan (0, 0) 0 [jR 96, jI x1, jI x2, jI x3, jI x4, jI x5, jI x6, jN, jN, jN, jN] [] (jG, M) Q :=
  (J_aload_n dX10_plan_0 rfl (J_iload_n dX10_plan_1 rfl (J_iload_n dX10_plan_2 rfl (J_iload_n dX10_plan_3 rfl (J_iload dX10_plan_4 rfl (J_callV (a1 := (0, 0)) (a2 := (0, 0)) (mm' := mX10_planRefusal) (S := []) [jI x1, jI x2, jI x3, jI x4] md_X10_planRefusal im_X10_planRefusal se_X10_planRefusal dX10_plan_6 wm_X10_239 jcl_X10.1 rfl g_96 rfl rfl (Nat.le_of_ble_eq_true rfl) (Nat.le_of_ble_eq_true rfl) rfl k1))))))
theorem b_X10_plan_9 {l : Launch} {z d : Nat} {X : jX} {M : Nat → Int → Int} {Q : Option jV → jM → Prop} {x1 : Int} {x2 : Int} {x3 : Int} {x4 : Int} {x5 : Int} {x6 : Int} {t0 : Int}  (s1 : 0 ≤ t0 → jInL (x2 - 1)) (k1 : 0 ≤ t0 → 0 ≤ x5 ∧ x5 ≤ (x2 - 1) → 0 ≤ x6 ∧ x6 ≤ 5 → (jand (jshr x1 x6) 1) ≠ 0 → J l z X (d + 4) mX10_findPlan (0, 0) 0 [jR 96, jI x1, jI x2, jI x3, jI x4, jN, jN] [] (jG, M) (fun r μ => J l z X (d + 5) mX10_plan (0, 0) 66 [jR 96, jI x1, jI x2, jI x3, jI x4, jI x5, jI x6, jI t0, jN, jN, jN] (r.toList ++ []) μ Q)) (k2 : 0 ≤ t0 → 0 ≤ x5 ∧ x5 ≤ (x2 - 1) → 0 ≤ x6 ∧ x6 ≤ 5 → (jand (jshr x1 x6) 1) = 0 → Q (some (jI (-1))) (jG, M)) (k3 : 0 ≤ t0 → 0 ≤ x5 ∧ x5 ≤ (x2 - 1) → ¬ (0 ≤ x6 ∧ x6 ≤ 5) → Q (some (jI (-1))) (jG, M)) (k4 : 0 ≤ t0 → ¬ (0 ≤ x5 ∧ x5 ≤ (x2 - 1)) → Q (some (jI (-1))) (jG, M)) (k5 : t0 < 0 → Q (some (jI t0)) (jG, M)) : J l z X (d + 5) mX10_plan (0, 0) 9 [jR 96, jI x1, jI x2, jI x3, jI x4, jI x5, jI x6, jN, jN, jN, jN] [jI t0] (jG, M) Q :=
  (J_istore dX10_plan_9 (Nat.le_of_ble_eq_true rfl) (J_iload dX10_plan_11 rfl (J_if_ge dX10_plan_13 (tgt := 19) (by decide) (fun c1 => (J_iload dX10_plan_19 rfl (J_i2l dX10_plan_21 (J_lconst dX10_plan_22 jlc_0 jlv_0 (J_iload_n dX10_plan_23 rfl (J_i2l dX10_plan_24 (J_lconst dX10_plan_25 jlc_1 jlv_1 (J_lsub dX10_plan_26 (s1 c1) (J_callS (a1 := (0, 0)) (a2 := (0, 0)) (mm' := mX10_in) (S := []) [jL x5, jL 0, jL (x2 - 1)] md_X10_in is_X10_in dX10_plan_27 wm_X10_94 rfl rfl (Nat.le_of_ble_eq_true rfl) (Nat.le_of_ble_eq_true rfl) rfl (c_X10_in   (fun c2 => (J_if_eq dX10_plan_30 (tgt := 55) (by decide) (fun c => absurd c (by decide)) (fun _ => (J_iload dX10_plan_33 rfl (J_i2l dX10_plan_35 (J_lconst dX10_plan_36 jlc_0 jlv_0 (J_ldc2 dX10_plan_37 (lw_X10_92) lcl_X10_92 rfl (J_callS (a1 := (0, 0)) (a2 := (0, 0)) (mm' := mX10_in) (S := []) [jL x6, jL 0, jL 5] md_X10_in is_X10_in dX10_plan_40 wm_X10_94 rfl rfl (Nat.le_of_ble_eq_true rfl) (Nat.le_of_ble_eq_true rfl) rfl (c_X10_in   (fun c3 => (J_if_eq dX10_plan_43 (tgt := 55) (by decide) (fun c => absurd c (by decide)) (fun _ => (J_iload_n dX10_plan_46 rfl (J_iload dX10_plan_47 rfl (J_ishr dX10_plan_49 (J_iconst dX10_plan_50 jc_1 (J_iand dX10_plan_51 (J_if_ne dX10_plan_52 (tgt := 57) (by decide) (fun c4 => (J_aload_n dX10_plan_57 rfl (J_iload_n dX10_plan_58 rfl (J_iload_n dX10_plan_59 rfl (J_iload_n dX10_plan_60 rfl (J_iload dX10_plan_61 rfl (J_callV (a1 := (0, 0)) (a2 := (0, 0)) (mm' := mX10_findPlan) (S := []) [jI x1, jI x2, jI x3, jI x4] md_X10_findPlan im_X10_findPlan se_X10_findPlan dX10_plan_63 wm_X10_242 jcl_X10.1 rfl g_96 rfl rfl (Nat.le_of_ble_eq_true rfl) (Nat.le_of_ble_eq_true rfl) rfl (k1 c1 c2 c3 c4)))))))) (fun c4 => (J_iconst dX10_plan_55 jc_m1 (J_iret dX10_plan_56 rfl (k2 c1 c2 c3 c4))))))))))))) (fun c3 => (J_if_eq dX10_plan_43 (tgt := 55) (by decide) (fun _ => (J_iconst dX10_plan_55 jc_m1 (J_iret dX10_plan_56 rfl (k3 c1 c2 c3)))) (fun c => absurd c (by decide))))))))))))) (fun c2 => (J_if_eq dX10_plan_30 (tgt := 55) (by decide) (fun _ => (J_iconst dX10_plan_55 jc_m1 (J_iret dX10_plan_56 rfl (k4 c1 c2)))) (fun c => absurd c (by decide)))))))))))))) (fun c1 => (J_iload dX10_plan_16 rfl (J_iret dX10_plan_18 rfl (k5 c1)))))))
theorem b_X10_plan_66 {l : Launch} {z d : Nat} {X : jX} {M : Nat → Int → Int} {Q : Option jV → jM → Prop} {x1 : Int} {x2 : Int} {x3 : Int} {x4 : Int} {x5 : Int} {x6 : Int} {x7 : Int}  (s1 : jIn (17576 * x2)) (s2 : 0 ≤ (17576 * x2)) (s3 : (17576 * x2) < 123032) (k1 : (M 114 (17576 * x2)) < 1000 → J l z X (d + 5) mX10_plan (0, 0) 94 [jR 96, jI x1, jI x2, jI x3, jI x4, jI x5, jI x6, jI x7, jI 0, jI 0, jI 0] [] (jG, M) Q) (k2 : 1000 ≤ (M 114 (17576 * x2)) → Q (some (jI (-6))) (jG, M)) : J l z X (d + 5) mX10_plan (0, 0) 66 [jR 96, jI x1, jI x2, jI x3, jI x4, jI x5, jI x6, jI x7, jN, jN, jN] [] (jG, M) Q :=
  (J_aload_n dX10_plan_66 rfl (J_getR (k := 29) jcl_X10 dX10_plan_67 wf_X10_62 g_96 (Nat.le_of_ble_eq_true rfl) rfl rfl (J_sipush dX10_plan_70 jc_17576 jsp_17576 (J_iload_n dX10_plan_73 rfl (J_imul dX10_plan_74 s1 (J_iald dX10_plan_75 g_114 s2 s3 (J_sipush dX10_plan_76 jc_1000 jsp_1000 (J_icmp_lt dX10_plan_79 (tgt := 85) (by decide) (fun c1 => (J_iconst dX10_plan_85 jc_0 (J_istore dX10_plan_86 (Nat.le_of_ble_eq_true rfl) (J_iconst dX10_plan_88 jc_0 (J_istore dX10_plan_89 (Nat.le_of_ble_eq_true rfl) (J_iconst dX10_plan_91 jc_0 (J_istore dX10_plan_92 (Nat.le_of_ble_eq_true rfl) (k1 c1)))))))) (fun c1 => (J_bipush dX10_plan_82 jc_m6 jb_m6 (J_iret dX10_plan_84 rfl (k2 c1))))))))))))
theorem b_X10_plan_94 {l : Launch} {z d : Nat} {X : jX} {M : Nat → Int → Int} {Q : Option jV → jM → Prop} {x1 : Int} {x2 : Int} {x3 : Int} {x4 : Int} {x5 : Int} {x6 : Int} {x7 : Int} {x8 : Int} {x9 : Int} {x10 : Int}  (s1 : x5 < x10 → (M 110 0) ≠ x6 → (M 110 1) ≠ x6 → 0 ≤ x9) (s2 : x5 < x10 → (M 110 0) ≠ x6 → (M 110 1) = x6 → 0 ≤ x9) (s3 : x5 < x10 → (M 110 0) ≠ x6 → (M 110 1) = x6 → 0 ≤ (x9 / 3)) (s4 : x5 < x10 → (M 110 0) = x6 → 0 ≤ x9) (s5 : x10 ≤ x5 → jIn (x2 - x10)) (k1 : x5 < x10 → (M 110 0) ≠ x6 → (M 110 1) ≠ x6 → Q (some (jI (x9 % 3))) (jG, M)) (k2 : x5 < x10 → (M 110 0) ≠ x6 → (M 110 1) = x6 → Q (some (jI ((x9 / 3) % 3))) (jG, M)) (k3 : x5 < x10 → (M 110 0) = x6 → Q (some (jI (x9 / 9))) (jG, M)) (k4 : x10 ≤ x5 → J l z X (d + 4) mX10_firstHow (0, 0) 0 [jR 96, jI x8, jI x3, jI (x2 - x10), jN, jN, jN, jN] [] (jG, M) (fun r μ => J l z X (d + 5) mX10_plan (0, 0) 112 [jR 96, jI x1, jI x2, jI x3, jI x4, jI x5, jI x6, jI x7, jI x8, jI x9, jI x10] (r.toList ++ []) μ Q)) : J l z X (d + 5) mX10_plan (0, 0) 94 [jR 96, jI x1, jI x2, jI x3, jI x4, jI x5, jI x6, jI x7, jI x8, jI x9, jI x10] [] (jG, M) Q :=
  (J_iload dX10_plan_94 rfl (J_iload dX10_plan_96 rfl (J_icmp_gt dX10_plan_98 (tgt := 149) (by decide) (fun c1 => (J_aload_n dX10_plan_149 rfl (J_getR (k := 25) jcl_X10 dX10_plan_150 wf_X10_49 g_96 (Nat.le_of_ble_eq_true rfl) rfl rfl (J_iconst dX10_plan_153 jc_0 (J_iald dX10_plan_154 g_110 (by decide) (by decide) (J_iload dX10_plan_155 rfl (J_icmp_ne dX10_plan_157 (tgt := 168) (by decide) (fun c2 => (J_aload_n dX10_plan_168 rfl (J_getR (k := 25) jcl_X10 dX10_plan_169 wf_X10_49 g_96 (Nat.le_of_ble_eq_true rfl) rfl rfl (J_iconst dX10_plan_172 jc_1 (J_iald dX10_plan_173 g_110 (by decide) (by decide) (J_iload dX10_plan_174 rfl (J_icmp_ne dX10_plan_176 (tgt := 188) (by decide) (fun c3 => (J_iload dX10_plan_188 rfl (J_iconst dX10_plan_190 jc_3 (J_irem dX10_plan_191 (s1 c1 c2 c3) (by decide) (J_iret dX10_plan_192 rfl (k1 c1 c2 c3)))))) (fun c3 => (J_iload dX10_plan_179 rfl (J_iconst dX10_plan_181 jc_3 (J_idiv dX10_plan_182 (s2 c1 c2 c3) (by decide) (J_iconst dX10_plan_183 jc_3 (J_irem dX10_plan_184 (s3 c1 c2 c3) (by decide) (J_goto dX10_plan_185 (tgt := 192) (by decide) (J_iret dX10_plan_192 rfl (k2 c1 c2 c3)))))))))))))))) (fun c2 => (J_iload dX10_plan_160 rfl (J_bipush dX10_plan_162 jc_9 jb_9 (J_idiv dX10_plan_164 (s4 c1 c2) (by decide) (J_goto dX10_plan_165 (tgt := 192) (by decide) (J_iret dX10_plan_192 rfl (k3 c1 c2)))))))))))))) (fun c1 => (J_aload_n dX10_plan_101 rfl (J_iload dX10_plan_102 rfl (J_iload_n dX10_plan_104 rfl (J_iload_n dX10_plan_105 rfl (J_iload dX10_plan_106 rfl (J_isub dX10_plan_108 (s5 c1) (J_callV (a1 := (0, 0)) (a2 := (0, 0)) (mm' := mX10_firstHow) (S := []) [jI x8, jI x3, jI (x2 - x10)] md_X10_firstHow im_X10_firstHow se_X10_firstHow dX10_plan_109 wm_X10_245 jcl_X10.1 rfl g_96 rfl rfl (Nat.le_of_ble_eq_true rfl) (Nat.le_of_ble_eq_true rfl) rfl (k4 c1))))))))))))
theorem b_X10_plan_112 {l : Launch} {z d : Nat} {X : jX} {M : Nat → Int → Int} {Q : Option jV → jM → Prop} {x1 : Int} {x2 : Int} {x3 : Int} {x4 : Int} {x5 : Int} {x6 : Int} {x7 : Int} {x8 : Int} {x9 : Int} {x10 : Int} {t0 : Int}  (s1 : 0 ≤ x8) (s2 : 0 ≤ (x8 / 26)) (k1 : J l z X (d + 4) mX10_thenOf (0, 0) 0 [jR 96, jI ((x8 / 26) / 26), jI ((x8 / 26) % 26), jI (x8 % 26), jI t0, jN, jN, jN] [] (jG, M) (fun r μ => J l z X (d + 5) mX10_plan (0, 0) 141 [jR 96, jI x1, jI x2, jI x3, jI x4, jI x5, jI x6, jI x7, jI x8, jI t0, jI x10] (r.toList ++ []) μ Q)) : J l z X (d + 5) mX10_plan (0, 0) 112 [jR 96, jI x1, jI x2, jI x3, jI x4, jI x5, jI x6, jI x7, jI x8, jI x9, jI x10] [jI t0] (jG, M) Q :=
  (J_istore dX10_plan_112 (Nat.le_of_ble_eq_true rfl) (J_aload_n dX10_plan_114 rfl (J_iload dX10_plan_115 rfl (J_bipush dX10_plan_117 jc_26 jb_26 (J_idiv dX10_plan_119 s1 (by decide) (J_bipush dX10_plan_120 jc_26 jb_26 (J_idiv dX10_plan_122 s2 (by decide) (J_iload dX10_plan_123 rfl (J_bipush dX10_plan_125 jc_26 jb_26 (J_idiv dX10_plan_127 s1 (by decide) (J_bipush dX10_plan_128 jc_26 jb_26 (J_irem dX10_plan_130 s2 (by decide) (J_iload dX10_plan_131 rfl (J_bipush dX10_plan_133 jc_26 jb_26 (J_irem dX10_plan_135 s1 (by decide) (J_iload dX10_plan_136 rfl (J_callV (a1 := (0, 0)) (a2 := (0, 0)) (mm' := mX10_thenOf) (S := []) [jI ((x8 / 26) / 26), jI ((x8 / 26) % 26), jI (x8 % 26), jI t0] md_X10_thenOf im_X10_thenOf se_X10_thenOf dX10_plan_138 wm_X10_218 jcl_X10.1 rfl g_96 rfl rfl (Nat.le_of_ble_eq_true rfl) (Nat.le_of_ble_eq_true rfl) rfl k1)))))))))))))))))
theorem b_X10_plan_141 {l : Launch} {z d : Nat} {X : jX} {M : Nat → Int → Int} {Q : Option jV → jM → Prop} {x1 : Int} {x2 : Int} {x3 : Int} {x4 : Int} {x5 : Int} {x6 : Int} {x7 : Int} {x8 : Int} {x9 : Int} {x10 : Int} {t0 : Int}  (s1 : jIn (x10 + 1)) (k1 : J l z X (d + 5) mX10_plan (0, 0) 94 [jR 96, jI x1, jI x2, jI x3, jI x4, jI x5, jI x6, jI x7, jI t0, jI x9, jI (x10 + 1)] [] (jG, M) Q) : J l z X (d + 5) mX10_plan (0, 0) 141 [jR 96, jI x1, jI x2, jI x3, jI x4, jI x5, jI x6, jI x7, jI x8, jI x9, jI x10] [jI t0] (jG, M) Q :=
  (J_istore dX10_plan_141 (Nat.le_of_ble_eq_true rfl) (J_iinc dX10_plan_143 rfl jc_1 s1 (J_goto dX10_plan_146 (tgt := 94) (by decide) k1)))
theorem b_X10_isEnvyless_0 {l : Launch} {z d : Nat} {X : jX} {M : Nat → Int → Int} {Q : Option jV → jM → Prop}    (k1 : J l z X (d + 2) mX10_isEnvyless (0, 0) 4 [jR 96, jI 1, jI 0, jN, jN, jN] [] (jG, M) Q) : J l z X (d + 2) mX10_isEnvyless (0, 0) 0 [jR 96, jN, jN, jN, jN, jN] [] (jG, M) Q :=
  (J_iconst dX10_isEnvyless_0 jc_1 (J_istore_n dX10_isEnvyless_1 (Nat.le_of_ble_eq_true rfl) (J_iconst dX10_isEnvyless_2 jc_0 (J_istore_n dX10_isEnvyless_3 (Nat.le_of_ble_eq_true rfl) k1))))
theorem b_X10_isEnvyless_4 {l : Launch} {z d : Nat} {X : jX} {M : Nat → Int → Int} {Q : Option jV → jM → Prop} {x1 : Int} {x2 : Int}  (s1 : 6 ≤ x2 → x1 = 0 ∨ x1 = 1) (k1 : 6 ≤ x2 → Q (some (jI x1)) (jG, M)) (k2 : x2 < 6 → J l z X (d + 2) mX10_isEnvyless (0, 0) 12 [jR 96, jI x1, jI x2, jI 0, jN, jN] [] (jG, M) Q) : J l z X (d + 2) mX10_isEnvyless (0, 0) 4 [jR 96, jI x1, jI x2, jN, jN, jN] [] (jG, M) Q :=
  (J_iload_n dX10_isEnvyless_4 rfl (J_bipush dX10_isEnvyless_5 jc_6 jb_6 (J_icmp_ge dX10_isEnvyless_7 (tgt := 137) (by decide) (fun c1 => (J_iload_n dX10_isEnvyless_137 rfl (J_zret dX10_isEnvyless_138 rfl (s1 c1) (k1 c1)))) (fun c1 => (J_iconst dX10_isEnvyless_10 jc_0 (J_istore_n dX10_isEnvyless_11 (Nat.le_of_ble_eq_true rfl) (k2 c1)))))))
theorem b_X10_isEnvyless_12 {l : Launch} {z d : Nat} {X : jX} {M : Nat → Int → Int} {Q : Option jV → jM → Prop} {x1 : Int} {x2 : Int} {x3 : Int}  (s1 : 6 ≤ x3 → jIn (x2 + 1)) (s2 : x3 < 6 → x2 ≠ x3 → hasB (M 96 0) x2 = true → hasB (M 96 0) x3 = true → 0 ≤ x3) (s3 : x3 < 6 → x2 ≠ x3 → hasB (M 96 0) x2 = true → hasB (M 96 0) x3 = true → x3 < 6) (s4 : x3 < 6 → x2 ≠ x3 → hasB (M 96 0) x2 = true → hasB (M 96 0) x3 = true → 0 ≤ x2) (s5 : x3 < 6 → x2 ≠ x3 → hasB (M 96 0) x2 = true → hasB (M 96 0) x3 = true → x2 < 6) (k1 : 6 ≤ x3 → J l z X (d + 2) mX10_isEnvyless (0, 0) 4 [jR 96, jI x1, jI (x2 + 1), jN, jN, jN] [] (jG, M) Q) (k2 : x3 < 6 → x2 = x3 → J l z X (d + 2) mX10_isEnvyless (0, 0) 58 [jR 96, jI x1, jI x2, jI x3, jN, jN] [] (jG, M) Q) (k3 : x3 < 6 → x2 ≠ x3 → hasB (M 96 0) x2 = true → hasB (M 96 0) x3 = true → (M 97 x3) < (M 97 x2) → J l z X (d + 2) mX10_isEnvyless (0, 0) 58 [jR 96, jI x1, jI x2, jI x3, jN, jN] [] (jG, M) Q) (k4 : x3 < 6 → x2 ≠ x3 → hasB (M 96 0) x2 = true → hasB (M 96 0) x3 = true → (M 97 x2) ≤ (M 97 x3) → J l z X (d + 2) mX10_isEnvyless (0, 0) 59 [jR 96, jI x1, jI x2, jI x3, jN, jN] [jI 1] (jG, M) Q) (k5 : x3 < 6 → x2 ≠ x3 → hasB (M 96 0) x2 = true → hasB (M 96 0) x3 = false → J l z X (d + 2) mX10_isEnvyless (0, 0) 58 [jR 96, jI x1, jI x2, jI x3, jN, jN] [] (jG, M) Q) (k6 : x3 < 6 → x2 ≠ x3 → hasB (M 96 0) x2 = false → J l z X (d + 2) mX10_isEnvyless (0, 0) 58 [jR 96, jI x1, jI x2, jI x3, jN, jN] [] (jG, M) Q) : J l z X (d + 2) mX10_isEnvyless (0, 0) 12 [jR 96, jI x1, jI x2, jI x3, jN, jN] [] (jG, M) Q :=
  (J_iload_n dX10_isEnvyless_12 rfl (J_bipush dX10_isEnvyless_13 jc_6 jb_6 (J_icmp_ge dX10_isEnvyless_15 (tgt := 131) (by decide) (fun c1 => (J_iinc dX10_isEnvyless_131 rfl jc_1 (s1 c1) (J_goto dX10_isEnvyless_134 (tgt := 4) (by decide) (J_weak [jR 96, jI x1, jI (x2 + 1), jN, jN, jN] ⟨Or.inr rfl, Or.inr rfl, Or.inr rfl, Or.inl rfl, Or.inr rfl, Or.inr rfl, trivial⟩ (k1 c1))))) (fun c1 => (J_iload_n dX10_isEnvyless_18 rfl (J_iload_n dX10_isEnvyless_19 rfl (J_icmp_eq dX10_isEnvyless_20 (tgt := 58) (by decide) (fun c2 => (k2 c1 c2)) (fun c2 => (J_aload_n dX10_isEnvyless_23 rfl (J_iload_n dX10_isEnvyless_24 rfl (J_callV (a1 := (0, 0)) (a2 := (0, 0)) (mm' := mX10_isOne) (S := []) [jI x2] md_X10_isOne im_X10_isOne se_X10_isOne dX10_isEnvyless_25 wm_X10_109 jcl_X10.1 rfl g_96 rfl rfl (Nat.le_of_ble_eq_true rfl) (Nat.le_of_ble_eq_true rfl) rfl (c_X10_isOne   (fun c3 => (J_if_eq dX10_isEnvyless_28 (tgt := 58) (by decide) (fun c => absurd c (by decide)) (fun _ => (J_aload_n dX10_isEnvyless_31 rfl (J_iload_n dX10_isEnvyless_32 rfl (J_callV (a1 := (0, 0)) (a2 := (0, 0)) (mm' := mX10_isOne) (S := []) [jI x3] md_X10_isOne im_X10_isOne se_X10_isOne dX10_isEnvyless_33 wm_X10_109 jcl_X10.1 rfl g_96 rfl rfl (Nat.le_of_ble_eq_true rfl) (Nat.le_of_ble_eq_true rfl) rfl (c_X10_isOne   (fun c4 => (J_if_eq dX10_isEnvyless_36 (tgt := 58) (by decide) (fun c => absurd c (by decide)) (fun _ => (J_aload_n dX10_isEnvyless_39 rfl (J_getR (k := 4) jcl_X10 dX10_isEnvyless_40 wf_X10_7 g_96 (Nat.le_of_ble_eq_true rfl) rfl rfl (J_iload_n dX10_isEnvyless_43 rfl (J_iald dX10_isEnvyless_44 g_97 (s2 c1 c2 c3 c4) (s3 c1 c2 c3 c4) (J_aload_n dX10_isEnvyless_45 rfl (J_getR (k := 4) jcl_X10 dX10_isEnvyless_46 wf_X10_7 g_96 (Nat.le_of_ble_eq_true rfl) rfl rfl (J_iload_n dX10_isEnvyless_49 rfl (J_iald dX10_isEnvyless_50 g_97 (s4 c1 c2 c3 c4) (s5 c1 c2 c3 c4) (J_icmp_lt dX10_isEnvyless_51 (tgt := 58) (by decide) (fun c5 => (k3 c1 c2 c3 c4 c5)) (fun c5 => (J_iconst dX10_isEnvyless_54 jc_1 (J_goto dX10_isEnvyless_55 (tgt := 59) (by decide) (k4 c1 c2 c3 c4 c5)))))))))))))))) (fun c4 => (J_if_eq dX10_isEnvyless_36 (tgt := 58) (by decide) (fun _ => (k5 c1 c2 c3 c4)) (fun c => absurd c (by decide))))))))))) (fun c3 => (J_if_eq dX10_isEnvyless_28 (tgt := 58) (by decide) (fun _ => (k6 c1 c2 c3)) (fun c => absurd c (by decide))))))))))))))))
theorem b_X10_isEnvyless_58 {l : Launch} {z d : Nat} {X : jX} {M : Nat → Int → Int} {Q : Option jV → jM → Prop} {x1 : Int} {x2 : Int} {x3 : Int}   (k1 : J l z X (d + 2) mX10_isEnvyless (0, 0) 59 [jR 96, jI x1, jI x2, jI x3, jN, jN] [jI 0] (jG, M) Q) : J l z X (d + 2) mX10_isEnvyless (0, 0) 58 [jR 96, jI x1, jI x2, jI x3, jN, jN] [] (jG, M) Q :=
  (J_iconst dX10_isEnvyless_58 jc_0 k1)
theorem b_X10_isEnvyless_59 {l : Launch} {z d : Nat} {X : jX} {M : Nat → Int → Int} {Q : Option jV → jM → Prop} {x1 : Int} {x2 : Int} {x3 : Int} {t0 : Int}  (s1 : t0 ≠ 0 → 0 ≤ x2) (s2 : t0 ≠ 0 → x2 < 6) (s3 : t0 ≠ 0 → (0 ≤ x2 ∧ x2 < 6) ∧ (-1000 ≤ (M 97 x2) ∧ (M 97 x2) ≤ 1000) ∧ (0 ≤ (M 98 x2) ∧ (M 98 x2) ≤ 9)) (s4 : t0 ≠ 0 → 0 ≤ x3) (s5 : t0 ≠ 0 → x3 < 6) (s6 : t0 ≠ 0 → (0 ≤ x3 ∧ x3 < 6) ∧ (-1000 ≤ (M 97 x3) ∧ (M 97 x3) ≤ 1000) ∧ (0 ≤ (M 98 x3) ∧ (M 98 x3) ≤ 9)) (k1 : t0 = 0 → J l z X (d + 2) mX10_isEnvyless (0, 0) 107 [jR 96, jI x1, jI x2, jI x3, jI t0, jN] [] (jG, M) Q) (k2 : t0 ≠ 0 → (agF (M 98 x2) (M 99 x2) (M 97 x2) (M 116 x2)) ≤ (agF (M 98 x3) (M 99 x3) (M 97 x3) (M 116 x3)) → J l z X (d + 2) mX10_isEnvyless (0, 0) 107 [jR 96, jI x1, jI x2, jI x3, jI t0, jN] [] (jG, M) Q) (k3 : t0 ≠ 0 → (agF (M 98 x3) (M 99 x3) (M 97 x3) (M 116 x3)) < (agF (M 98 x2) (M 99 x2) (M 97 x2) (M 116 x2)) → J l z X (d + 2) mX10_isEnvyless (0, 0) 108 [jR 96, jI x1, jI x2, jI x3, jI t0, jN] [jI 1] (jG, M) Q) : J l z X (d + 2) mX10_isEnvyless (0, 0) 59 [jR 96, jI x1, jI x2, jI x3, jN, jN] [jI t0] (jG, M) Q :=
  (J_istore dX10_isEnvyless_59 (Nat.le_of_ble_eq_true rfl) (J_iload dX10_isEnvyless_61 rfl (J_if_eq dX10_isEnvyless_63 (tgt := 107) (by decide) (fun c1 => (k1 c1)) (fun c1 => (J_aload_n dX10_isEnvyless_66 rfl (J_iload_n dX10_isEnvyless_67 rfl (J_aload_n dX10_isEnvyless_68 rfl (J_getR (k := 4) jcl_X10 dX10_isEnvyless_69 wf_X10_7 g_96 (Nat.le_of_ble_eq_true rfl) rfl rfl (J_iload_n dX10_isEnvyless_72 rfl (J_iald dX10_isEnvyless_73 g_97 (s1 c1) (s2 c1) (J_aload_n dX10_isEnvyless_74 rfl (J_getR (k := 31) jcl_X10 dX10_isEnvyless_75 wf_X10_68 g_96 (Nat.le_of_ble_eq_true rfl) rfl rfl (J_iload_n dX10_isEnvyless_78 rfl (J_iald dX10_isEnvyless_79 g_116 (s1 c1) (s2 c1) (J_callV (a1 := (0, 0)) (a2 := (0, 0)) (mm' := mX10_lookBehind) (S := []) [jI x2, jI (M 97 x2), jI (M 116 x2)] md_X10_lookBehind im_X10_lookBehind se_X10_lookBehind dX10_isEnvyless_80 wm_X10_147 jcl_X10.1 rfl g_96 rfl rfl (Nat.le_of_ble_eq_true rfl) (Nat.le_of_ble_eq_true rfl) rfl (c_X10_lookBehind  (s3 c1) (J_aload_n dX10_isEnvyless_83 rfl (J_iload_n dX10_isEnvyless_84 rfl (J_aload_n dX10_isEnvyless_85 rfl (J_getR (k := 4) jcl_X10 dX10_isEnvyless_86 wf_X10_7 g_96 (Nat.le_of_ble_eq_true rfl) rfl rfl (J_iload_n dX10_isEnvyless_89 rfl (J_iald dX10_isEnvyless_90 g_97 (s4 c1) (s5 c1) (J_aload_n dX10_isEnvyless_91 rfl (J_getR (k := 31) jcl_X10 dX10_isEnvyless_92 wf_X10_68 g_96 (Nat.le_of_ble_eq_true rfl) rfl rfl (J_iload_n dX10_isEnvyless_95 rfl (J_iald dX10_isEnvyless_96 g_116 (s4 c1) (s5 c1) (J_callV (a1 := (0, 0)) (a2 := (0, 0)) (mm' := mX10_lookBehind) (S := [jI (agF (M 98 x2) (M 99 x2) (M 97 x2) (M 116 x2))]) [jI x3, jI (M 97 x3), jI (M 116 x3)] md_X10_lookBehind im_X10_lookBehind se_X10_lookBehind dX10_isEnvyless_97 wm_X10_147 jcl_X10.1 rfl g_96 rfl rfl (Nat.le_of_ble_eq_true rfl) (Nat.le_of_ble_eq_true rfl) rfl (c_X10_lookBehind  (s6 c1) (J_icmp_le dX10_isEnvyless_100 (tgt := 107) (by decide) (fun c2 => (k2 c1 c2)) (fun c2 => (J_iconst dX10_isEnvyless_103 jc_1 (J_goto dX10_isEnvyless_104 (tgt := 108) (by decide) (k3 c1 c2)))))))))))))))))))))))))))))))))
theorem b_X10_isEnvyless_107 {l : Launch} {z d : Nat} {X : jX} {M : Nat → Int → Int} {Q : Option jV → jM → Prop} {x1 : Int} {x2 : Int} {x3 : Int} {x4 : Int}   (k1 : J l z X (d + 2) mX10_isEnvyless (0, 0) 108 [jR 96, jI x1, jI x2, jI x3, jI x4, jN] [jI 0] (jG, M) Q) : J l z X (d + 2) mX10_isEnvyless (0, 0) 107 [jR 96, jI x1, jI x2, jI x3, jI x4, jN] [] (jG, M) Q :=
  (J_iconst dX10_isEnvyless_107 jc_0 k1)
theorem b_X10_isEnvyless_108 {l : Launch} {z d : Nat} {X : jX} {M : Nat → Int → Int} {Q : Option jV → jM → Prop} {x1 : Int} {x2 : Int} {x3 : Int} {x4 : Int} {t0 : Int}   (k1 : x1 = 0 → J l z X (d + 2) mX10_isEnvyless (0, 0) 123 [jR 96, jI x1, jI x2, jI x3, jI x4, jI t0] [] (jG, M) Q) (k2 : x1 ≠ 0 → t0 ≠ 0 → J l z X (d + 2) mX10_isEnvyless (0, 0) 123 [jR 96, jI x1, jI x2, jI x3, jI x4, jI t0] [] (jG, M) Q) (k3 : x1 ≠ 0 → t0 = 0 → J l z X (d + 2) mX10_isEnvyless (0, 0) 124 [jR 96, jI x1, jI x2, jI x3, jI x4, jI t0] [jI 1] (jG, M) Q) : J l z X (d + 2) mX10_isEnvyless (0, 0) 108 [jR 96, jI x1, jI x2, jI x3, jI x4, jN] [jI t0] (jG, M) Q :=
  (J_istore dX10_isEnvyless_108 (Nat.le_of_ble_eq_true rfl) (J_iload_n dX10_isEnvyless_110 rfl (J_if_eq dX10_isEnvyless_111 (tgt := 123) (by decide) (fun c1 => (k1 c1)) (fun c1 => (J_iload dX10_isEnvyless_114 rfl (J_if_ne dX10_isEnvyless_116 (tgt := 123) (by decide) (fun c2 => (k2 c1 c2)) (fun c2 => (J_iconst dX10_isEnvyless_119 jc_1 (J_goto dX10_isEnvyless_120 (tgt := 124) (by decide) (k3 c1 c2))))))))))
theorem b_X10_isEnvyless_123 {l : Launch} {z d : Nat} {X : jX} {M : Nat → Int → Int} {Q : Option jV → jM → Prop} {x1 : Int} {x2 : Int} {x3 : Int} {x4 : Int} {x5 : Int}   (k1 : J l z X (d + 2) mX10_isEnvyless (0, 0) 124 [jR 96, jI x1, jI x2, jI x3, jI x4, jI x5] [jI 0] (jG, M) Q) : J l z X (d + 2) mX10_isEnvyless (0, 0) 123 [jR 96, jI x1, jI x2, jI x3, jI x4, jI x5] [] (jG, M) Q :=
  (J_iconst dX10_isEnvyless_123 jc_0 k1)
theorem b_X10_isEnvyless_124 {l : Launch} {z d : Nat} {X : jX} {M : Nat → Int → Int} {Q : Option jV → jM → Prop} {x1 : Int} {x2 : Int} {x3 : Int} {x4 : Int} {x5 : Int} {t0 : Int}  (s1 : jIn (x3 + 1)) (k1 : J l z X (d + 2) mX10_isEnvyless (0, 0) 12 [jR 96, jI t0, jI x2, jI (x3 + 1), jN, jN] [] (jG, M) Q) : J l z X (d + 2) mX10_isEnvyless (0, 0) 124 [jR 96, jI x1, jI x2, jI x3, jI x4, jI x5] [jI t0] (jG, M) Q :=
  (J_istore_n dX10_isEnvyless_124 (Nat.le_of_ble_eq_true rfl) (J_iinc dX10_isEnvyless_125 rfl jc_1 s1 (J_goto dX10_isEnvyless_128 (tgt := 12) (by decide) (J_weak [jR 96, jI t0, jI x2, jI (x3 + 1), jN, jN] ⟨Or.inr rfl, Or.inr rfl, Or.inr rfl, Or.inr rfl, Or.inl rfl, Or.inl rfl, trivial⟩ k1))))
theorem b_X10_shareOf_0 {l : Launch} {z d : Nat} {X : jX} {M : Nat → Int → Int} {Q : Option jV → jM → Prop} {x1 : Int} {x2 : Int}   (k1 : J l z X (d + 3) mX10_shareOf (0, 0) 14 [jR 96, jI x1, jI x2, jI x1, jI 0, jI 0, jI 1, jI 5] [] (jG, M) Q) : J l z X (d + 3) mX10_shareOf (0, 0) 0 [jR 96, jI x1, jI x2, jN, jN, jN, jN, jN] [] (jG, M) Q :=
  (J_iload_n dX10_shareOf_0 rfl (J_istore_n dX10_shareOf_1 (Nat.le_of_ble_eq_true rfl) (J_iconst dX10_shareOf_2 jc_0 (J_istore dX10_shareOf_3 (Nat.le_of_ble_eq_true rfl) (J_iconst dX10_shareOf_5 jc_0 (J_istore dX10_shareOf_6 (Nat.le_of_ble_eq_true rfl) (J_iconst dX10_shareOf_8 jc_1 (J_istore dX10_shareOf_9 (Nat.le_of_ble_eq_true rfl) (J_iconst dX10_shareOf_11 jc_5 (J_istore dX10_shareOf_12 (Nat.le_of_ble_eq_true rfl) k1))))))))))
theorem b_X10_shareOf_14 {l : Launch} {z d : Nat} {X : jX} {M : Nat → Int → Int} {Q : Option jV → jM → Prop} {x1 : Int} {x2 : Int} {x3 : Int} {x4 : Int} {x5 : Int} {x6 : Int} {x7 : Int}  (s1 : 0 ≤ x7 → 0 ≤ x3) (s2 : 0 ≤ x7 → 0 ≤ x7) (s3 : 0 ≤ x7 → x7 < 6) (s4 : 0 ≤ x7 → hasB ((jupd M 116 x7 (x3 % 3)) 96 0) x7 = false → 0 ≤ x7) (s5 : 0 ≤ x7 → hasB ((jupd M 116 x7 (x3 % 3)) 96 0) x7 = false → x7 < 6) (k1 : x7 < 0 → x4 ≠ x2 → Q (some (jI (-6))) (jG, M)) (k2 : x7 < 0 → x4 = x2 → J l z X (d + 2) mX10_isEnvyless (0, 0) 0 [jR 96, jN, jN, jN, jN, jN] [] (jG, M) (fun r μ => J l z X (d + 3) mX10_shareOf (0, 0) 118 [jR 96, jI x1, jI x2, jI x3, jI x4, jI x5, jI x6, jI x7] (r.toList ++ []) μ Q)) (k3 : 0 ≤ x7 → hasB ((jupd M 116 x7 (x3 % 3)) 96 0) x7 = true → J l z X (d + 3) mX10_shareOf (0, 0) 55 [jR 96, jI x1, jI x2, jI (x3 / 3), jI x4, jI x5, jI x6, jI x7] [] (jG, (jupd M 116 x7 (x3 % 3))) Q) (k4 : 0 ≤ x7 → hasB ((jupd M 116 x7 (x3 % 3)) 96 0) x7 = false → ((jupd M 116 x7 (x3 % 3)) 116 x7) ≤ 0 → J l z X (d + 3) mX10_shareOf (0, 0) 55 [jR 96, jI x1, jI x2, jI (x3 / 3), jI x4, jI x5, jI x6, jI x7] [] (jG, (jupd M 116 x7 (x3 % 3))) Q) (k5 : 0 ≤ x7 → hasB ((jupd M 116 x7 (x3 % 3)) 96 0) x7 = false → 0 < ((jupd M 116 x7 (x3 % 3)) 116 x7) → Q (some (jI (-6))) (jG, (jupd M 116 x7 (x3 % 3)))) : J l z X (d + 3) mX10_shareOf (0, 0) 14 [jR 96, jI x1, jI x2, jI x3, jI x4, jI x5, jI x6, jI x7] [] (jG, M) Q :=
  (J_iload dX10_shareOf_14 rfl (J_if_lt dX10_shareOf_16 (tgt := 108) (by decide) (fun c1 => (J_iload dX10_shareOf_108 rfl (J_iload_n dX10_shareOf_110 rfl (J_icmp_ne dX10_shareOf_111 (tgt := 126) (by decide) (fun c2 => (J_bipush dX10_shareOf_126 jc_m6 jb_m6 (J_iret dX10_shareOf_128 rfl (k1 c1 c2)))) (fun c2 => (J_aload_n dX10_shareOf_114 rfl (J_callV (a1 := (0, 0)) (a2 := (0, 0)) (mm' := mX10_isEnvyless) (S := []) [] md_X10_isEnvyless im_X10_isEnvyless se_X10_isEnvyless dX10_shareOf_115 wm_X10_248 jcl_X10.1 rfl g_96 rfl rfl (Nat.le_of_ble_eq_true rfl) (Nat.le_of_ble_eq_true rfl) rfl (k2 c1 c2)))))))) (fun c1 => (J_aload_n dX10_shareOf_19 rfl (J_getR (k := 31) jcl_X10 dX10_shareOf_20 wf_X10_68 g_96 (Nat.le_of_ble_eq_true rfl) rfl rfl (J_iload dX10_shareOf_23 rfl (J_iload_n dX10_shareOf_25 rfl (J_iconst dX10_shareOf_26 jc_3 (J_irem dX10_shareOf_27 (s1 c1) (by decide) (J_iast dX10_shareOf_28 g_116 (s2 c1) (s3 c1) (J_iload_n dX10_shareOf_29 rfl (J_iconst dX10_shareOf_30 jc_3 (J_idiv dX10_shareOf_31 (s1 c1) (by decide) (J_istore_n dX10_shareOf_32 (Nat.le_of_ble_eq_true rfl) (J_aload_n dX10_shareOf_33 rfl (J_iload dX10_shareOf_34 rfl (J_callV (a1 := (0, 0)) (a2 := (0, 0)) (mm' := mX10_isOne) (S := []) [jI x7] md_X10_isOne im_X10_isOne se_X10_isOne dX10_shareOf_36 wm_X10_109 jcl_X10.1 rfl g_96 rfl rfl (Nat.le_of_ble_eq_true rfl) (Nat.le_of_ble_eq_true rfl) rfl (c_X10_isOne   (fun c3 => (J_if_ne dX10_shareOf_39 (tgt := 55) (by decide) (fun _ => (k3 c1 c3)) (fun c => absurd c (by decide)))) (fun c3 => (J_if_ne dX10_shareOf_39 (tgt := 55) (by decide) (fun c => absurd c (by decide)) (fun _ => (J_aload_n dX10_shareOf_42 rfl (J_getR (k := 31) jcl_X10 dX10_shareOf_43 wf_X10_68 g_96 (Nat.le_of_ble_eq_true rfl) rfl rfl (J_iload dX10_shareOf_46 rfl (J_iald dX10_shareOf_48 g_116 (s4 c1 c3) (s5 c1 c3) (J_if_le dX10_shareOf_49 (tgt := 55) (by decide) (fun c4 => (k4 c1 c3 c4)) (fun c4 => (J_bipush dX10_shareOf_52 jc_m6 jb_m6 (J_iret dX10_shareOf_54 rfl (k5 c1 c3 c4))))))))))))))))))))))))))))))
theorem b_X10_shareOf_55 {l : Launch} {z d : Nat} {X : jX} {M : Nat → Int → Int} {Q : Option jV → jM → Prop} {x1 : Int} {x2 : Int} {x3 : Int} {x4 : Int} {x5 : Int} {x6 : Int} {x7 : Int}  (s1 : 0 ≤ x7) (s2 : x7 < 6) (s3 : jIn (x4 + (M 116 x7))) (s4 : hasB (M 96 0) x7 = true → 0 ≤ x7) (s5 : hasB (M 96 0) x7 = true → x7 < 6) (k1 : hasB (M 96 0) x7 = true → J l z X (d + 3) mX10_shareOf (0, 0) 91 [jR 96, jI x1, jI x2, jI x3, jI (x4 + (M 116 x7)), jI x5, jI x6, jI x7] [jI (M 116 x7), jI x6, jI x5] (jG, M) Q) (k2 : hasB (M 96 0) x7 = false → J l z X (d + 3) mX10_shareOf (0, 0) 91 [jR 96, jI x1, jI x2, jI x3, jI (x4 + (M 116 x7)), jI x5, jI x6, jI x7] [jI 3, jI x6, jI x5] (jG, M) Q) : J l z X (d + 3) mX10_shareOf (0, 0) 55 [jR 96, jI x1, jI x2, jI x3, jI x4, jI x5, jI x6, jI x7] [] (jG, M) Q :=
  (J_iload dX10_shareOf_55 rfl (J_aload_n dX10_shareOf_57 rfl (J_getR (k := 31) jcl_X10 dX10_shareOf_58 wf_X10_68 g_96 (Nat.le_of_ble_eq_true rfl) rfl rfl (J_iload dX10_shareOf_61 rfl (J_iald dX10_shareOf_63 g_116 s1 s2 (J_iadd dX10_shareOf_64 s3 (J_istore dX10_shareOf_65 (Nat.le_of_ble_eq_true rfl) (J_iload dX10_shareOf_67 rfl (J_iload dX10_shareOf_69 rfl (J_aload_n dX10_shareOf_71 rfl (J_iload dX10_shareOf_72 rfl (J_callV (a1 := (0, 0)) (a2 := (0, 0)) (mm' := mX10_isOne) (S := [jI x6, jI x5]) [jI x7] md_X10_isOne im_X10_isOne se_X10_isOne dX10_shareOf_74 wm_X10_109 jcl_X10.1 rfl g_96 rfl rfl (Nat.le_of_ble_eq_true rfl) (Nat.le_of_ble_eq_true rfl) rfl (c_X10_isOne   (fun c1 => (J_if_eq dX10_shareOf_77 (tgt := 90) (by decide) (fun c => absurd c (by decide)) (fun _ => (J_aload_n dX10_shareOf_80 rfl (J_getR (k := 31) jcl_X10 dX10_shareOf_81 wf_X10_68 g_96 (Nat.le_of_ble_eq_true rfl) rfl rfl (J_iload dX10_shareOf_84 rfl (J_iald dX10_shareOf_86 g_116 (s4 c1) (s5 c1) (J_goto dX10_shareOf_87 (tgt := 91) (by decide) (k1 c1))))))))) (fun c1 => (J_if_eq dX10_shareOf_77 (tgt := 90) (by decide) (fun _ => (J_iconst dX10_shareOf_90 jc_3 (k2 c1))) (fun c => absurd c (by decide)))))))))))))))))
theorem b_X10_shareOf_91 {l : Launch} {z d : Nat} {X : jX} {M : Nat → Int → Int} {Q : Option jV → jM → Prop} {x1 : Int} {x2 : Int} {x3 : Int} {x4 : Int} {x5 : Int} {x6 : Int} {x7 : Int} {t0 : Int} {t1 : Int} {t2 : Int}  (s1 : jIn (t1 * t2)) (s2 : jIn (t0 + (t1 * t2))) (s3 : jIn (x6 * 10)) (s4 : jIn (x7 + (-1))) (k1 : J l z X (d + 3) mX10_shareOf (0, 0) 14 [jR 96, jI x1, jI x2, jI x3, jI x4, jI (t0 + (t1 * t2)), jI (x6 * 10), jI (x7 + (-1))] [] (jG, M) Q) : J l z X (d + 3) mX10_shareOf (0, 0) 91 [jR 96, jI x1, jI x2, jI x3, jI x4, jI x5, jI x6, jI x7] [jI t2, jI t1, jI t0] (jG, M) Q :=
  (J_imul dX10_shareOf_91 s1 (J_iadd dX10_shareOf_92 s2 (J_istore dX10_shareOf_93 (Nat.le_of_ble_eq_true rfl) (J_iload dX10_shareOf_95 rfl (J_bipush dX10_shareOf_97 jc_10 jb_10 (J_imul dX10_shareOf_99 s3 (J_istore dX10_shareOf_100 (Nat.le_of_ble_eq_true rfl) (J_iinc dX10_shareOf_102 rfl jc_m1 s4 (J_goto dX10_shareOf_105 (tgt := 14) (by decide) k1)))))))))
theorem b_X10_shareOf_118 {l : Launch} {z d : Nat} {X : jX} {M : Nat → Int → Int} {Q : Option jV → jM → Prop} {x1 : Int} {x2 : Int} {x3 : Int} {x4 : Int} {x5 : Int} {x6 : Int} {x7 : Int} {t0 : Int}   (k1 : t0 = 0 → Q (some (jI (-6))) (jG, M)) (k2 : t0 ≠ 0 → Q (some (jI x5)) (jG, M)) : J l z X (d + 3) mX10_shareOf (0, 0) 118 [jR 96, jI x1, jI x2, jI x3, jI x4, jI x5, jI x6, jI x7] [jI t0] (jG, M) Q :=
  (J_if_eq dX10_shareOf_118 (tgt := 126) (by decide) (fun c1 => (J_bipush dX10_shareOf_126 jc_m6 jb_m6 (J_iret dX10_shareOf_128 rfl (k1 c1)))) (fun c1 => (J_iload dX10_shareOf_121 rfl (J_goto dX10_shareOf_123 (tgt := 128) (by decide) (J_iret dX10_shareOf_128 rfl (k2 c1))))))
theorem b_X10_envy_0 {l : Launch} {z d : Nat} {X : jX} {M : Nat → Int → Int} {Q : Option jV → jM → Prop} {x1 : Int} {x2 : Int}   (k1 : 0 ≤ x1 ∧ x1 ≤ 12 → 0 ≤ x2 ∧ x2 ≤ 1 → J l z X (d + 4) mX10_envy (0, 0) 36 [jR 96, jI x1, jI x2, jI 0, jI (-6), jI 728, jN] [] (jG, M) Q) (k2 : 0 ≤ x1 ∧ x1 ≤ 12 → ¬ (0 ≤ x2 ∧ x2 ≤ 1) → Q (some (jI (-2))) (jG, M)) (k3 : ¬ (0 ≤ x1 ∧ x1 ≤ 12) → Q (some (jI (-2))) (jG, M)) : J l z X (d + 4) mX10_envy (0, 0) 0 [jR 96, jI x1, jI x2, jN, jN, jN, jN] [] (jG, M) Q :=
  (J_iload_n dX10_envy_0 rfl (J_i2l dX10_envy_1 (J_lconst dX10_envy_2 jlc_0 jlv_0 (J_ldc2 dX10_envy_3 (lw_X10_252) lcl_X10_252 rfl (J_callS (a1 := (0, 0)) (a2 := (0, 0)) (mm' := mX10_in) (S := []) [jL x1, jL 0, jL 12] md_X10_in is_X10_in dX10_envy_6 wm_X10_94 rfl rfl (Nat.le_of_ble_eq_true rfl) (Nat.le_of_ble_eq_true rfl) rfl (c_X10_in   (fun c1 => (J_if_eq dX10_envy_9 (tgt := 22) (by decide) (fun c => absurd c (by decide)) (fun _ => (J_iload_n dX10_envy_12 rfl (J_i2l dX10_envy_13 (J_lconst dX10_envy_14 jlc_0 jlv_0 (J_lconst dX10_envy_15 jlc_1 jlv_1 (J_callS (a1 := (0, 0)) (a2 := (0, 0)) (mm' := mX10_in) (S := []) [jL x2, jL 0, jL 1] md_X10_in is_X10_in dX10_envy_16 wm_X10_94 rfl rfl (Nat.le_of_ble_eq_true rfl) (Nat.le_of_ble_eq_true rfl) rfl (c_X10_in   (fun c2 => (J_if_ne dX10_envy_19 (tgt := 25) (by decide) (fun _ => (J_iconst dX10_envy_25 jc_0 (J_istore_n dX10_envy_26 (Nat.le_of_ble_eq_true rfl) (J_bipush dX10_envy_27 jc_m6 jb_m6 (J_istore dX10_envy_29 (Nat.le_of_ble_eq_true rfl) (J_sipush dX10_envy_31 jc_728 jsp_728 (J_istore dX10_envy_34 (Nat.le_of_ble_eq_true rfl) (k1 c1 c2)))))))) (fun c => absurd c (by decide)))) (fun c2 => (J_if_ne dX10_envy_19 (tgt := 25) (by decide) (fun c => absurd c (by decide)) (fun _ => (J_bipush dX10_envy_22 jc_m2 jb_m2 (J_iret dX10_envy_24 rfl (k2 c1 c2))))))))))))))) (fun c1 => (J_if_eq dX10_envy_9 (tgt := 22) (by decide) (fun _ => (J_bipush dX10_envy_22 jc_m2 jb_m2 (J_iret dX10_envy_24 rfl (k3 c1)))) (fun c => absurd c (by decide))))))))))
theorem b_X10_envy_36 {l : Launch} {z d : Nat} {X : jX} {M : Nat → Int → Int} {Q : Option jV → jM → Prop} {x1 : Int} {x2 : Int} {x3 : Int} {x4 : Int} {x5 : Int}   (k1 : x5 < 0 → x2 ≠ 0 → Q (some (jI x4)) (jG, M)) (k2 : x5 < 0 → x2 = 0 → Q (some (jI x3)) (jG, M)) (k3 : 0 ≤ x5 → J l z X (d + 3) mX10_shareOf (0, 0) 0 [jR 96, jI x5, jI x1, jN, jN, jN, jN, jN] [] (jG, M) (fun r μ => J l z X (d + 4) mX10_envy (0, 0) 48 [jR 96, jI x1, jI x2, jI x3, jI x4, jI x5, jN] (r.toList ++ []) μ Q)) : J l z X (d + 4) mX10_envy (0, 0) 36 [jR 96, jI x1, jI x2, jI x3, jI x4, jI x5, jN] [] (jG, M) Q :=
  (J_iload dX10_envy_36 rfl (J_if_lt dX10_envy_38 (tgt := 83) (by decide) (fun c1 => (J_iload_n dX10_envy_83 rfl (J_if_ne dX10_envy_84 (tgt := 91) (by decide) (fun c2 => (J_iload dX10_envy_91 rfl (J_iret dX10_envy_93 rfl (k1 c1 c2)))) (fun c2 => (J_iload_n dX10_envy_87 rfl (J_goto dX10_envy_88 (tgt := 93) (by decide) (J_iret dX10_envy_93 rfl (k2 c1 c2)))))))) (fun c1 => (J_aload_n dX10_envy_41 rfl (J_iload dX10_envy_42 rfl (J_iload_n dX10_envy_44 rfl (J_callV (a1 := (0, 0)) (a2 := (0, 0)) (mm' := mX10_shareOf) (S := []) [jI x5, jI x1] md_X10_shareOf im_X10_shareOf se_X10_shareOf dX10_envy_45 wm_X10_254 jcl_X10.1 rfl g_96 rfl rfl (Nat.le_of_ble_eq_true rfl) (Nat.le_of_ble_eq_true rfl) rfl (k3 c1))))))))
theorem b_X10_envy_48 {l : Launch} {z d : Nat} {X : jX} {M : Nat → Int → Int} {Q : Option jV → jM → Prop} {x1 : Int} {x2 : Int} {x3 : Int} {x4 : Int} {x5 : Int} {t0 : Int}   (k1 : t0 < 0 → J l z X (d + 4) mX10_envy (0, 0) 61 [jR 96, jI x1, jI x2, jI x3, jI x4, jI x5, jI t0] [jI 0, jI x3] (jG, M) Q) (k2 : 0 ≤ t0 → J l z X (d + 4) mX10_envy (0, 0) 61 [jR 96, jI x1, jI x2, jI x3, jI x4, jI x5, jI t0] [jI 1, jI x3] (jG, M) Q) : J l z X (d + 4) mX10_envy (0, 0) 48 [jR 96, jI x1, jI x2, jI x3, jI x4, jI x5, jN] [jI t0] (jG, M) Q :=
  (J_istore dX10_envy_48 (Nat.le_of_ble_eq_true rfl) (J_iload_n dX10_envy_50 rfl (J_iload dX10_envy_51 rfl (J_if_lt dX10_envy_53 (tgt := 60) (by decide) (fun c1 => (J_iconst dX10_envy_60 jc_0 (k1 c1))) (fun c1 => (J_iconst dX10_envy_56 jc_1 (J_goto dX10_envy_57 (tgt := 61) (by decide) (k2 c1))))))))
theorem b_X10_envy_61 {l : Launch} {z d : Nat} {X : jX} {M : Nat → Int → Int} {Q : Option jV → jM → Prop} {x1 : Int} {x2 : Int} {x3 : Int} {x4 : Int} {x5 : Int} {x6 : Int} {t0 : Int} {t1 : Int}  (s1 : jIn (t0 + t1)) (k1 : x6 < 0 → J l z X (d + 4) mX10_envy (0, 0) 75 [jR 96, jI x1, jI x2, jI (t0 + t1), jI x4, jI x5, jI x6] [jI x4] (jG, M) Q) (k2 : 0 ≤ x6 → J l z X (d + 4) mX10_envy (0, 0) 75 [jR 96, jI x1, jI x2, jI (t0 + t1), jI x4, jI x5, jI x6] [jI x6] (jG, M) Q) : J l z X (d + 4) mX10_envy (0, 0) 61 [jR 96, jI x1, jI x2, jI x3, jI x4, jI x5, jI x6] [jI t1, jI t0] (jG, M) Q :=
  (J_iadd dX10_envy_61 s1 (J_istore_n dX10_envy_62 (Nat.le_of_ble_eq_true rfl) (J_iload dX10_envy_63 rfl (J_if_lt dX10_envy_65 (tgt := 73) (by decide) (fun c1 => (J_iload dX10_envy_73 rfl (k1 c1))) (fun c1 => (J_iload dX10_envy_68 rfl (J_goto dX10_envy_70 (tgt := 75) (by decide) (k2 c1))))))))
theorem b_X10_envy_75 {l : Launch} {z d : Nat} {X : jX} {M : Nat → Int → Int} {Q : Option jV → jM → Prop} {x1 : Int} {x2 : Int} {x3 : Int} {x4 : Int} {x5 : Int} {x6 : Int} {t0 : Int}  (s1 : jIn (x5 + (-1))) (k1 : J l z X (d + 4) mX10_envy (0, 0) 36 [jR 96, jI x1, jI x2, jI x3, jI t0, jI (x5 + (-1)), jN] [] (jG, M) Q) : J l z X (d + 4) mX10_envy (0, 0) 75 [jR 96, jI x1, jI x2, jI x3, jI x4, jI x5, jI x6] [jI t0] (jG, M) Q :=
  (J_istore dX10_envy_75 (Nat.le_of_ble_eq_true rfl) (J_iinc dX10_envy_77 rfl jc_m1 s1 (J_goto dX10_envy_80 (tgt := 36) (by decide) (J_weak [jR 96, jI x1, jI x2, jI x3, jI t0, jI (x5 + (-1)), jN] ⟨Or.inr rfl, Or.inr rfl, Or.inr rfl, Or.inr rfl, Or.inr rfl, Or.inr rfl, Or.inl rfl, trivial⟩ k1))))
theorem b_X10_refuses_0 {l : Launch} {z d : Nat} {X : jX} {M : Nat → Int → Int} {Q : Option jV → jM → Prop} {x1 : Int}   (k1 : 0 ≤ x1 ∧ x1 ≤ 60 → J l z X (d + 2) mX10_refuses (0, 0) 19 [jR 96, jI x1, jI 0, jI 0, jN, jN] [] (jG, M) Q) (k2 : ¬ (0 ≤ x1 ∧ x1 ≤ 60) → Q (some (jI (-2))) (jG, M)) : J l z X (d + 2) mX10_refuses (0, 0) 0 [jR 96, jI x1, jN, jN, jN, jN] [] (jG, M) Q :=
  (J_iload_n dX10_refuses_0 rfl (J_i2l dX10_refuses_1 (J_lconst dX10_refuses_2 jlc_0 jlv_0 (J_ldc2 dX10_refuses_3 (lw_X10_257) lcl_X10_257 rfl (J_callS (a1 := (0, 0)) (a2 := (0, 0)) (mm' := mX10_in) (S := []) [jL x1, jL 0, jL 60] md_X10_in is_X10_in dX10_refuses_6 wm_X10_94 rfl rfl (Nat.le_of_ble_eq_true rfl) (Nat.le_of_ble_eq_true rfl) rfl (c_X10_in   (fun c1 => (J_if_ne dX10_refuses_9 (tgt := 15) (by decide) (fun _ => (J_iconst dX10_refuses_15 jc_0 (J_istore_n dX10_refuses_16 (Nat.le_of_ble_eq_true rfl) (J_iconst dX10_refuses_17 jc_0 (J_istore_n dX10_refuses_18 (Nat.le_of_ble_eq_true rfl) (k1 c1)))))) (fun c => absurd c (by decide)))) (fun c1 => (J_if_ne dX10_refuses_9 (tgt := 15) (by decide) (fun c => absurd c (by decide)) (fun _ => (J_bipush dX10_refuses_12 jc_m2 jb_m2 (J_iret dX10_refuses_14 rfl (k2 c1))))))))))))
theorem b_X10_refuses_19 {l : Launch} {z d : Nat} {X : jX} {M : Nat → Int → Int} {Q : Option jV → jM → Prop} {x1 : Int} {x2 : Int} {x3 : Int}  (s1 : x3 < 6 → 0 ≤ x3) (s2 : x3 < 6 → x3 < 6) (s3 : x3 < 6 → jIn (x1 * (M 98 x3))) (s4 : x3 < 6 → jIn ((M 97 x3) + (x1 * (M 98 x3)))) (s5 : x3 < 6 → ((M 97 x3) + (x1 * (M 98 x3))) < 99 → 0 ≤ x3) (s6 : x3 < 6 → ((M 97 x3) + (x1 * (M 98 x3))) < 99 → x3 < 6) (s7 : x3 < 6 → ((M 97 x3) + (x1 * (M 98 x3))) < 99 → jIn (x1 * (M 98 x3))) (s8 : x3 < 6 → ((M 97 x3) + (x1 * (M 98 x3))) < 99 → jIn ((M 97 x3) + (x1 * (M 98 x3)))) (k1 : 6 ≤ x3 → Q (some (jI x2)) (jG, M)) (k2 : x3 < 6 → 99 ≤ ((M 97 x3) + (x1 * (M 98 x3))) → J l z X (d + 2) mX10_refuses (0, 0) 65 [jR 96, jI x1, jI x2, jI x3, jN, jN] [jI 99] (jG, M) Q) (k3 : x3 < 6 → ((M 97 x3) + (x1 * (M 98 x3))) < 99 → J l z X (d + 2) mX10_refuses (0, 0) 65 [jR 96, jI x1, jI x2, jI x3, jN, jN] [jI ((M 97 x3) + (x1 * (M 98 x3)))] (jG, M) Q) : J l z X (d + 2) mX10_refuses (0, 0) 19 [jR 96, jI x1, jI x2, jI x3, jN, jN] [] (jG, M) Q :=
  (J_iload_n dX10_refuses_19 rfl (J_bipush dX10_refuses_20 jc_6 jb_6 (J_icmp_ge dX10_refuses_22 (tgt := 143) (by decide) (fun c1 => (J_iload_n dX10_refuses_143 rfl (J_iret dX10_refuses_144 rfl (k1 c1)))) (fun c1 => (J_aload_n dX10_refuses_25 rfl (J_getR (k := 4) jcl_X10 dX10_refuses_26 wf_X10_7 g_96 (Nat.le_of_ble_eq_true rfl) rfl rfl (J_iload_n dX10_refuses_29 rfl (J_iald dX10_refuses_30 g_97 (s1 c1) (s2 c1) (J_iload_n dX10_refuses_31 rfl (J_aload_n dX10_refuses_32 rfl (J_getR (k := 5) jcl_X10 dX10_refuses_33 wf_X10_13 g_96 (Nat.le_of_ble_eq_true rfl) rfl rfl (J_iload_n dX10_refuses_36 rfl (J_iald dX10_refuses_37 g_98 (s1 c1) (s2 c1) (J_imul dX10_refuses_38 (s3 c1) (J_iadd dX10_refuses_39 (s4 c1) (J_bipush dX10_refuses_40 jc_99 jb_99 (J_icmp_ge dX10_refuses_42 (tgt := 63) (by decide) (fun c2 => (J_bipush dX10_refuses_63 jc_99 jb_99 (k2 c1 c2))) (fun c2 => (J_aload_n dX10_refuses_45 rfl (J_getR (k := 4) jcl_X10 dX10_refuses_46 wf_X10_7 g_96 (Nat.le_of_ble_eq_true rfl) rfl rfl (J_iload_n dX10_refuses_49 rfl (J_iald dX10_refuses_50 g_97 (s5 c1 c2) (s6 c1 c2) (J_iload_n dX10_refuses_51 rfl (J_aload_n dX10_refuses_52 rfl (J_getR (k := 5) jcl_X10 dX10_refuses_53 wf_X10_13 g_96 (Nat.le_of_ble_eq_true rfl) rfl rfl (J_iload_n dX10_refuses_56 rfl (J_iald dX10_refuses_57 g_98 (s5 c1 c2) (s6 c1 c2) (J_imul dX10_refuses_58 (s7 c1 c2) (J_iadd dX10_refuses_59 (s8 c1 c2) (J_goto dX10_refuses_60 (tgt := 65) (by decide) (k3 c1 c2)))))))))))))))))))))))))))))))
theorem b_X10_refuses_65 {l : Launch} {z d : Nat} {X : jX} {M : Nat → Int → Int} {Q : Option jV → jM → Prop} {x1 : Int} {x2 : Int} {x3 : Int} {t0 : Int}  (s1 : 0 ≤ x3) (s2 : x3 < 6) (s3 : jIn (x1 * (M 98 x3))) (s4 : jIn ((M 97 x3) - (x1 * (M 98 x3)))) (s5 : ((M 97 x3) - (x1 * (M 98 x3))) ≤ (M 99 x3) → 0 ≤ x3) (s6 : ((M 97 x3) - (x1 * (M 98 x3))) ≤ (M 99 x3) → x3 < 6) (s7 : (M 99 x3) < ((M 97 x3) - (x1 * (M 98 x3))) → 0 ≤ x3) (s8 : (M 99 x3) < ((M 97 x3) - (x1 * (M 98 x3))) → x3 < 6) (s9 : (M 99 x3) < ((M 97 x3) - (x1 * (M 98 x3))) → jIn (x1 * (M 98 x3))) (s10 : (M 99 x3) < ((M 97 x3) - (x1 * (M 98 x3))) → jIn ((M 97 x3) - (x1 * (M 98 x3)))) (k1 : ((M 97 x3) - (x1 * (M 98 x3))) ≤ (M 99 x3) → J l z X (d + 2) mX10_refuses (0, 0) 115 [jR 96, jI x1, jI x2, jI x3, jI t0, jN] [jI (M 99 x3)] (jG, M) Q) (k2 : (M 99 x3) < ((M 97 x3) - (x1 * (M 98 x3))) → J l z X (d + 2) mX10_refuses (0, 0) 115 [jR 96, jI x1, jI x2, jI x3, jI t0, jN] [jI ((M 97 x3) - (x1 * (M 98 x3)))] (jG, M) Q) : J l z X (d + 2) mX10_refuses (0, 0) 65 [jR 96, jI x1, jI x2, jI x3, jN, jN] [jI t0] (jG, M) Q :=
  (J_istore dX10_refuses_65 (Nat.le_of_ble_eq_true rfl) (J_aload_n dX10_refuses_67 rfl (J_getR (k := 4) jcl_X10 dX10_refuses_68 wf_X10_7 g_96 (Nat.le_of_ble_eq_true rfl) rfl rfl (J_iload_n dX10_refuses_71 rfl (J_iald dX10_refuses_72 g_97 s1 s2 (J_iload_n dX10_refuses_73 rfl (J_aload_n dX10_refuses_74 rfl (J_getR (k := 5) jcl_X10 dX10_refuses_75 wf_X10_13 g_96 (Nat.le_of_ble_eq_true rfl) rfl rfl (J_iload_n dX10_refuses_78 rfl (J_iald dX10_refuses_79 g_98 s1 s2 (J_imul dX10_refuses_80 s3 (J_isub dX10_refuses_81 s4 (J_aload_n dX10_refuses_82 rfl (J_getR (k := 6) jcl_X10 dX10_refuses_83 wf_X10_16 g_96 (Nat.le_of_ble_eq_true rfl) rfl rfl (J_iload_n dX10_refuses_86 rfl (J_iald dX10_refuses_87 g_99 s1 s2 (J_icmp_le dX10_refuses_88 (tgt := 109) (by decide) (fun c1 => (J_aload_n dX10_refuses_109 rfl (J_getR (k := 6) jcl_X10 dX10_refuses_110 wf_X10_16 g_96 (Nat.le_of_ble_eq_true rfl) rfl rfl (J_iload_n dX10_refuses_113 rfl (J_iald dX10_refuses_114 g_99 (s5 c1) (s6 c1) (k1 c1)))))) (fun c1 => (J_aload_n dX10_refuses_91 rfl (J_getR (k := 4) jcl_X10 dX10_refuses_92 wf_X10_7 g_96 (Nat.le_of_ble_eq_true rfl) rfl rfl (J_iload_n dX10_refuses_95 rfl (J_iald dX10_refuses_96 g_97 (s7 c1) (s8 c1) (J_iload_n dX10_refuses_97 rfl (J_aload_n dX10_refuses_98 rfl (J_getR (k := 5) jcl_X10 dX10_refuses_99 wf_X10_13 g_96 (Nat.le_of_ble_eq_true rfl) rfl rfl (J_iload_n dX10_refuses_102 rfl (J_iald dX10_refuses_103 g_98 (s7 c1) (s8 c1) (J_imul dX10_refuses_104 (s9 c1) (J_isub dX10_refuses_105 (s10 c1) (J_goto dX10_refuses_106 (tgt := 115) (by decide) (k2 c1)))))))))))))))))))))))))))))))
theorem b_X10_refuses_115 {l : Launch} {z d : Nat} {X : jX} {M : Nat → Int → Int} {Q : Option jV → jM → Prop} {x1 : Int} {x2 : Int} {x3 : Int} {x4 : Int} {t0 : Int}  (s1 : hasB (M 96 0) x3 = true → jIn (x4 - t0)) (k1 : hasB (M 96 0) x3 = true → J l z X (d + 2) mX10_refuses (0, 0) 135 [jR 96, jI x1, jI x2, jI x3, jI x4, jI t0] [jI (x4 - t0), jI x2] (jG, M) Q) (k2 : hasB (M 96 0) x3 = false → J l z X (d + 2) mX10_refuses (0, 0) 135 [jR 96, jI x1, jI x2, jI x3, jI x4, jI t0] [jI 0, jI x2] (jG, M) Q) : J l z X (d + 2) mX10_refuses (0, 0) 115 [jR 96, jI x1, jI x2, jI x3, jI x4, jN] [jI t0] (jG, M) Q :=
  (J_istore dX10_refuses_115 (Nat.le_of_ble_eq_true rfl) (J_iload_n dX10_refuses_117 rfl (J_aload_n dX10_refuses_118 rfl (J_iload_n dX10_refuses_119 rfl (J_callV (a1 := (0, 0)) (a2 := (0, 0)) (mm' := mX10_isOne) (S := [jI x2]) [jI x3] md_X10_isOne im_X10_isOne se_X10_isOne dX10_refuses_120 wm_X10_109 jcl_X10.1 rfl g_96 rfl rfl (Nat.le_of_ble_eq_true rfl) (Nat.le_of_ble_eq_true rfl) rfl (c_X10_isOne   (fun c1 => (J_if_eq dX10_refuses_123 (tgt := 134) (by decide) (fun c => absurd c (by decide)) (fun _ => (J_iload dX10_refuses_126 rfl (J_iload dX10_refuses_128 rfl (J_isub dX10_refuses_130 (s1 c1) (J_goto dX10_refuses_131 (tgt := 135) (by decide) (k1 c1)))))))) (fun c1 => (J_if_eq dX10_refuses_123 (tgt := 134) (by decide) (fun _ => (J_iconst dX10_refuses_134 jc_0 (k2 c1))) (fun c => absurd c (by decide))))))))))
theorem b_X10_refuses_135 {l : Launch} {z d : Nat} {X : jX} {M : Nat → Int → Int} {Q : Option jV → jM → Prop} {x1 : Int} {x2 : Int} {x3 : Int} {x4 : Int} {x5 : Int} {t0 : Int} {t1 : Int}  (s1 : jIn (t0 + t1)) (s2 : jIn (x3 + 1)) (k1 : J l z X (d + 2) mX10_refuses (0, 0) 19 [jR 96, jI x1, jI (t0 + t1), jI (x3 + 1), jN, jN] [] (jG, M) Q) : J l z X (d + 2) mX10_refuses (0, 0) 135 [jR 96, jI x1, jI x2, jI x3, jI x4, jI x5] [jI t1, jI t0] (jG, M) Q :=
  (J_iadd dX10_refuses_135 s1 (J_istore_n dX10_refuses_136 (Nat.le_of_ble_eq_true rfl) (J_iinc dX10_refuses_137 rfl jc_1 s2 (J_goto dX10_refuses_140 (tgt := 19) (by decide) (J_weak [jR 96, jI x1, jI (t0 + t1), jI (x3 + 1), jN, jN] ⟨Or.inr rfl, Or.inr rfl, Or.inr rfl, Or.inr rfl, Or.inl rfl, Or.inl rfl, trivial⟩ k1)))))
