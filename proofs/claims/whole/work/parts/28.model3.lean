theorem dX10_seen_0 : decode cX10_seen 0 = .ok (.aload_n 0, 1) := by decide +kernel
theorem dX10_seen_1 : decode cX10_seen 1 = .ok (.iload_n 1, 1) := by decide +kernel
theorem dX10_seen_2 : decode cX10_seen 2 = .ok (.invokevirtual 109, 3) := by decide +kernel
theorem dX10_seen_5 : decode cX10_seen 5 = .ok (.ifCond .ne 5, 3) := by decide +kernel
theorem dX10_seen_8 : decode cX10_seen 8 = .ok (.iconst (-1), 1) := by decide +kernel
theorem dX10_seen_9 : decode cX10_seen 9 = .ok (.ireturn, 1) := by decide +kernel
theorem dX10_seen_10 : decode cX10_seen 10 = .ok (.iload_n 2, 1) := by decide +kernel
theorem dX10_seen_11 : decode cX10_seen 11 = .ok (.i2l, 1) := by decide +kernel
theorem dX10_seen_12 : decode cX10_seen 12 = .ok (.lconst 0, 1) := by decide +kernel
theorem dX10_seen_13 : decode cX10_seen 13 = .ok (.ldc2_w 101, 3) := by decide +kernel
theorem dX10_seen_16 : decode cX10_seen 16 = .ok (.invokestatic 94, 3) := by decide +kernel
theorem dX10_seen_19 : decode cX10_seen 19 = .ok (.ifCond .ne 6, 3) := by decide +kernel
theorem dX10_seen_22 : decode cX10_seen 22 = .ok (.bipush (-2), 2) := by decide +kernel
theorem dX10_seen_24 : decode cX10_seen 24 = .ok (.ireturn, 1) := by decide +kernel
theorem dX10_seen_25 : decode cX10_seen 25 = .ok (.aload_n 0, 1) := by decide +kernel
theorem dX10_seen_26 : decode cX10_seen 26 = .ok (.getfield 259, 3) := by decide +kernel
theorem dX10_seen_29 : decode cX10_seen 29 = .ok (.bipush 8, 2) := by decide +kernel
theorem dX10_seen_31 : decode cX10_seen 31 = .ok (.if_icmp .ne 6, 3) := by decide +kernel
theorem dX10_seen_34 : decode cX10_seen 34 = .ok (.bipush (-4), 2) := by decide +kernel
theorem dX10_seen_36 : decode cX10_seen 36 = .ok (.ireturn, 1) := by decide +kernel
theorem dX10_seen_37 : decode cX10_seen 37 = .ok (.aload_n 0, 1) := by decide +kernel
theorem dX10_seen_38 : decode cX10_seen 38 = .ok (.getfield 22, 3) := by decide +kernel
theorem dX10_seen_41 : decode cX10_seen 41 = .ok (.aload_n 0, 1) := by decide +kernel
theorem dX10_seen_42 : decode cX10_seen 42 = .ok (.getfield 259, 3) := by decide +kernel
theorem dX10_seen_45 : decode cX10_seen 45 = .ok (.iload_n 1, 1) := by decide +kernel
theorem dX10_seen_46 : decode cX10_seen 46 = .ok (.iastore, 1) := by decide +kernel
theorem dX10_seen_47 : decode cX10_seen 47 = .ok (.aload_n 0, 1) := by decide +kernel
theorem dX10_seen_48 : decode cX10_seen 48 = .ok (.getfield 25, 3) := by decide +kernel
theorem dX10_seen_51 : decode cX10_seen 51 = .ok (.aload_n 0, 1) := by decide +kernel
theorem dX10_seen_52 : decode cX10_seen 52 = .ok (.getfield 259, 3) := by decide +kernel
theorem dX10_seen_55 : decode cX10_seen 55 = .ok (.iload_n 2, 1) := by decide +kernel
theorem dX10_seen_56 : decode cX10_seen 56 = .ok (.iastore, 1) := by decide +kernel
theorem dX10_seen_57 : decode cX10_seen 57 = .ok (.aload_n 0, 1) := by decide +kernel
theorem dX10_seen_58 : decode cX10_seen 58 = .ok (.dup, 1) := by decide +kernel
theorem dX10_seen_59 : decode cX10_seen 59 = .ok (.getfield 259, 3) := by decide +kernel
theorem dX10_seen_62 : decode cX10_seen 62 = .ok (.iconst 1, 1) := by decide +kernel
theorem dX10_seen_63 : decode cX10_seen 63 = .ok (.iadd, 1) := by decide +kernel
theorem dX10_seen_64 : decode cX10_seen 64 = .ok (.putfield 259, 3) := by decide +kernel
theorem dX10_seen_67 : decode cX10_seen 67 = .ok (.aload_n 0, 1) := by decide +kernel
theorem dX10_seen_68 : decode cX10_seen 68 = .ok (.getfield 259, 3) := by decide +kernel
theorem dX10_seen_71 : decode cX10_seen 71 = .ok (.ireturn, 1) := by decide +kernel
theorem dX10_forget_0 : decode cX10_forget 0 = .ok (.aload_n 0, 1) := by decide +kernel
theorem dX10_forget_1 : decode cX10_forget 1 = .ok (.getfield 259, 3) := by decide +kernel
theorem dX10_forget_4 : decode cX10_forget 4 = .ok (.istore_n 1, 1) := by decide +kernel
theorem dX10_forget_5 : decode cX10_forget 5 = .ok (.aload_n 0, 1) := by decide +kernel
theorem dX10_forget_6 : decode cX10_forget 6 = .ok (.iconst 0, 1) := by decide +kernel
theorem dX10_forget_7 : decode cX10_forget 7 = .ok (.putfield 259, 3) := by decide +kernel
theorem dX10_forget_10 : decode cX10_forget 10 = .ok (.iload_n 1, 1) := by decide +kernel
theorem dX10_forget_11 : decode cX10_forget 11 = .ok (.ireturn, 1) := by decide +kernel
theorem dX10_lookedBy_0 : decode cX10_lookedBy 0 = .ok (.aload_n 0, 1) := by decide +kernel
theorem dX10_lookedBy_1 : decode cX10_lookedBy 1 = .ok (.iload_n 2, 1) := by decide +kernel
theorem dX10_lookedBy_2 : decode cX10_lookedBy 2 = .ok (.aload_n 0, 1) := by decide +kernel
theorem dX10_lookedBy_3 : decode cX10_lookedBy 3 = .ok (.getfield 7, 3) := by decide +kernel
theorem dX10_lookedBy_6 : decode cX10_lookedBy 6 = .ok (.iload_n 2, 1) := by decide +kernel
theorem dX10_lookedBy_7 : decode cX10_lookedBy 7 = .ok (.iaload, 1) := by decide +kernel
theorem dX10_lookedBy_8 : decode cX10_lookedBy 8 = .ok (.iload_n 1, 1) := by decide +kernel
theorem dX10_lookedBy_9 : decode cX10_lookedBy 9 = .ok (.iload_n 2, 1) := by decide +kernel
theorem dX10_lookedBy_10 : decode cX10_lookedBy 10 = .ok (.if_icmp .ne 7, 3) := by decide +kernel
theorem dX10_lookedBy_13 : decode cX10_lookedBy 13 = .ok (.iconst 1, 1) := by decide +kernel
theorem dX10_lookedBy_14 : decode cX10_lookedBy 14 = .ok (.goto 4, 3) := by decide +kernel
theorem dX10_lookedBy_17 : decode cX10_lookedBy 17 = .ok (.iconst 2, 1) := by decide +kernel
theorem dX10_lookedBy_18 : decode cX10_lookedBy 18 = .ok (.invokevirtual 147, 3) := by decide +kernel
theorem dX10_lookedBy_21 : decode cX10_lookedBy 21 = .ok (.ireturn, 1) := by decide +kernel
theorem dX10_fits_0 : decode cX10_fits 0 = .ok (.iload_n 1, 1) := by decide +kernel
theorem dX10_fits_1 : decode cX10_fits 1 = .ok (.bipush 6, 2) := by decide +kernel
theorem dX10_fits_3 : decode cX10_fits 3 = .ok (.if_icmp .eq 11, 3) := by decide +kernel
theorem dX10_fits_6 : decode cX10_fits 6 = .ok (.aload_n 0, 1) := by decide +kernel
theorem dX10_fits_7 : decode cX10_fits 7 = .ok (.iload_n 1, 1) := by decide +kernel
theorem dX10_fits_8 : decode cX10_fits 8 = .ok (.invokevirtual 109, 3) := by decide +kernel
theorem dX10_fits_11 : decode cX10_fits 11 = .ok (.ifCond .eq 7, 3) := by decide +kernel
theorem dX10_fits_14 : decode cX10_fits 14 = .ok (.iconst 1, 1) := by decide +kernel
theorem dX10_fits_15 : decode cX10_fits 15 = .ok (.goto 4, 3) := by decide +kernel
theorem dX10_fits_18 : decode cX10_fits 18 = .ok (.iconst 0, 1) := by decide +kernel
theorem dX10_fits_19 : decode cX10_fits 19 = .ok (.istore_n 2, 1) := by decide +kernel
theorem dX10_fits_20 : decode cX10_fits 20 = .ok (.iconst 0, 1) := by decide +kernel
theorem dX10_fits_21 : decode cX10_fits 21 = .ok (.istore_n 3, 1) := by decide +kernel
theorem dX10_fits_22 : decode cX10_fits 22 = .ok (.iload_n 3, 1) := by decide +kernel
theorem dX10_fits_23 : decode cX10_fits 23 = .ok (.aload_n 0, 1) := by decide +kernel
theorem dX10_fits_24 : decode cX10_fits 24 = .ok (.getfield 259, 3) := by decide +kernel
theorem dX10_fits_27 : decode cX10_fits 27 = .ok (.if_icmp .ge 52, 3) := by decide +kernel
theorem dX10_fits_30 : decode cX10_fits 30 = .ok (.aload_n 0, 1) := by decide +kernel
theorem dX10_fits_31 : decode cX10_fits 31 = .ok (.getfield 22, 3) := by decide +kernel
theorem dX10_fits_34 : decode cX10_fits 34 = .ok (.iload_n 3, 1) := by decide +kernel
theorem dX10_fits_35 : decode cX10_fits 35 = .ok (.iaload, 1) := by decide +kernel
theorem dX10_fits_36 : decode cX10_fits 36 = .ok (.istore 4, 2) := by decide +kernel
theorem dX10_fits_38 : decode cX10_fits 38 = .ok (.iload_n 2, 1) := by decide +kernel
theorem dX10_fits_39 : decode cX10_fits 39 = .ok (.ifCond .eq 32, 3) := by decide +kernel
theorem dX10_fits_42 : decode cX10_fits 42 = .ok (.aload_n 0, 1) := by decide +kernel
theorem dX10_fits_43 : decode cX10_fits 43 = .ok (.iload 4, 2) := by decide +kernel
theorem dX10_fits_45 : decode cX10_fits 45 = .ok (.invokevirtual 109, 3) := by decide +kernel
theorem dX10_fits_48 : decode cX10_fits 48 = .ok (.ifCond .eq 23, 3) := by decide +kernel
theorem dX10_fits_51 : decode cX10_fits 51 = .ok (.aload_n 0, 1) := by decide +kernel
theorem dX10_fits_52 : decode cX10_fits 52 = .ok (.iload_n 1, 1) := by decide +kernel
theorem dX10_fits_53 : decode cX10_fits 53 = .ok (.iload 4, 2) := by decide +kernel
theorem dX10_fits_55 : decode cX10_fits 55 = .ok (.invokevirtual 262, 3) := by decide +kernel
theorem dX10_fits_58 : decode cX10_fits 58 = .ok (.aload_n 0, 1) := by decide +kernel
theorem dX10_fits_59 : decode cX10_fits 59 = .ok (.getfield 25, 3) := by decide +kernel
theorem dX10_fits_62 : decode cX10_fits 62 = .ok (.iload_n 3, 1) := by decide +kernel
theorem dX10_fits_63 : decode cX10_fits 63 = .ok (.iaload, 1) := by decide +kernel
theorem dX10_fits_64 : decode cX10_fits 64 = .ok (.if_icmp .ne 7, 3) := by decide +kernel
theorem dX10_fits_67 : decode cX10_fits 67 = .ok (.iconst 1, 1) := by decide +kernel
theorem dX10_fits_68 : decode cX10_fits 68 = .ok (.goto 4, 3) := by decide +kernel
theorem dX10_fits_71 : decode cX10_fits 71 = .ok (.iconst 0, 1) := by decide +kernel
theorem dX10_fits_72 : decode cX10_fits 72 = .ok (.istore_n 2, 1) := by decide +kernel
theorem dX10_fits_73 : decode cX10_fits 73 = .ok (.iinc 3 1, 3) := by decide +kernel
theorem dX10_fits_76 : decode cX10_fits 76 = .ok (.goto (-54), 3) := by decide +kernel
theorem dX10_fits_79 : decode cX10_fits 79 = .ok (.iload_n 2, 1) := by decide +kernel
theorem dX10_fits_80 : decode cX10_fits 80 = .ok (.ireturn, 1) := by decide +kernel
theorem dX10_givers_0 : decode cX10_givers 0 = .ok (.iconst 0, 1) := by decide +kernel
theorem dX10_givers_1 : decode cX10_givers 1 = .ok (.istore_n 1, 1) := by decide +kernel
theorem dX10_givers_2 : decode cX10_givers 2 = .ok (.iconst 0, 1) := by decide +kernel
theorem dX10_givers_3 : decode cX10_givers 3 = .ok (.istore_n 2, 1) := by decide +kernel
theorem dX10_givers_4 : decode cX10_givers 4 = .ok (.iload_n 2, 1) := by decide +kernel
theorem dX10_givers_5 : decode cX10_givers 5 = .ok (.bipush 6, 2) := by decide +kernel
theorem dX10_givers_7 : decode cX10_givers 7 = .ok (.if_icmp .gt 27, 3) := by decide +kernel
theorem dX10_givers_10 : decode cX10_givers 10 = .ok (.iload_n 1, 1) := by decide +kernel
theorem dX10_givers_11 : decode cX10_givers 11 = .ok (.aload_n 0, 1) := by decide +kernel
theorem dX10_givers_12 : decode cX10_givers 12 = .ok (.iload_n 2, 1) := by decide +kernel
theorem dX10_givers_13 : decode cX10_givers 13 = .ok (.invokevirtual 265, 3) := by decide +kernel
theorem dX10_givers_16 : decode cX10_givers 16 = .ok (.ifCond .eq 9, 3) := by decide +kernel
theorem dX10_givers_19 : decode cX10_givers 19 = .ok (.iconst 1, 1) := by decide +kernel
theorem dX10_givers_20 : decode cX10_givers 20 = .ok (.iload_n 2, 1) := by decide +kernel
theorem dX10_givers_21 : decode cX10_givers 21 = .ok (.ishl, 1) := by decide +kernel
theorem dX10_givers_22 : decode cX10_givers 22 = .ok (.goto 4, 3) := by decide +kernel
theorem dX10_givers_25 : decode cX10_givers 25 = .ok (.iconst 0, 1) := by decide +kernel
theorem dX10_givers_26 : decode cX10_givers 26 = .ok (.ior, 1) := by decide +kernel
theorem dX10_givers_27 : decode cX10_givers 27 = .ok (.istore_n 1, 1) := by decide +kernel
theorem dX10_givers_28 : decode cX10_givers 28 = .ok (.iinc 2 1, 3) := by decide +kernel
theorem dX10_givers_31 : decode cX10_givers 31 = .ok (.goto (-27), 3) := by decide +kernel
theorem dX10_givers_34 : decode cX10_givers 34 = .ok (.iload_n 1, 1) := by decide +kernel
theorem dX10_givers_35 : decode cX10_givers 35 = .ok (.ireturn, 1) := by decide +kernel
theorem dX10_gave_0 : decode cX10_gave 0 = .ok (.iload_n 1, 1) := by decide +kernel
theorem dX10_gave_1 : decode cX10_gave 1 = .ok (.i2l, 1) := by decide +kernel
theorem dX10_gave_2 : decode cX10_gave 2 = .ok (.lconst 0, 1) := by decide +kernel
theorem dX10_gave_3 : decode cX10_gave 3 = .ok (.lconst 1, 1) := by decide +kernel
theorem dX10_gave_4 : decode cX10_gave 4 = .ok (.invokestatic 94, 3) := by decide +kernel
theorem dX10_gave_7 : decode cX10_gave 7 = .ok (.ifCond .ne 6, 3) := by decide +kernel
theorem dX10_gave_10 : decode cX10_gave 10 = .ok (.bipush (-2), 2) := by decide +kernel
theorem dX10_gave_12 : decode cX10_gave 12 = .ok (.ireturn, 1) := by decide +kernel
theorem dX10_gave_13 : decode cX10_gave 13 = .ok (.iload_n 1, 1) := by decide +kernel
theorem dX10_gave_14 : decode cX10_gave 14 = .ok (.ifCond .ne 13, 3) := by decide +kernel
theorem dX10_gave_17 : decode cX10_gave 17 = .ok (.aload_n 0, 1) := by decide +kernel
theorem dX10_gave_18 : decode cX10_gave 18 = .ok (.invokevirtual 268, 3) := by decide +kernel
theorem dX10_gave_21 : decode cX10_gave 21 = .ok (.invokestatic 105, 3) := by decide +kernel
theorem dX10_gave_24 : decode cX10_gave 24 = .ok (.goto 10, 3) := by decide +kernel
theorem dX10_gave_27 : decode cX10_gave 27 = .ok (.aload_n 0, 1) := by decide +kernel
theorem dX10_gave_28 : decode cX10_gave 28 = .ok (.invokevirtual 268, 3) := by decide +kernel
theorem dX10_gave_31 : decode cX10_gave 31 = .ok (.bipush 63, 2) := by decide +kernel
theorem dX10_gave_33 : decode cX10_gave 33 = .ok (.iand, 1) := by decide +kernel
theorem dX10_gave_34 : decode cX10_gave 34 = .ok (.ireturn, 1) := by decide +kernel
theorem dX10_mostAlike_0 : decode cX10_mostAlike 0 = .ok (.iconst 0, 1) := by decide +kernel
theorem dX10_mostAlike_1 : decode cX10_mostAlike 1 = .ok (.istore_n 3, 1) := by decide +kernel
theorem dX10_mostAlike_2 : decode cX10_mostAlike 2 = .ok (.iconst 0, 1) := by decide +kernel
theorem dX10_mostAlike_3 : decode cX10_mostAlike 3 = .ok (.istore 4, 2) := by decide +kernel
theorem dX10_mostAlike_5 : decode cX10_mostAlike 5 = .ok (.iload 4, 2) := by decide +kernel
theorem dX10_mostAlike_7 : decode cX10_mostAlike 7 = .ok (.bipush 6, 2) := by decide +kernel
theorem dX10_mostAlike_9 : decode cX10_mostAlike 9 = .ok (.if_icmp .gt 100, 3) := by decide +kernel
theorem dX10_mostAlike_12 : decode cX10_mostAlike 12 = .ok (.iconst 0, 1) := by decide +kernel
theorem dX10_mostAlike_13 : decode cX10_mostAlike 13 = .ok (.istore 5, 2) := by decide +kernel
theorem dX10_mostAlike_15 : decode cX10_mostAlike 15 = .ok (.iconst 0, 1) := by decide +kernel
theorem dX10_mostAlike_16 : decode cX10_mostAlike 16 = .ok (.istore 6, 2) := by decide +kernel
theorem dX10_mostAlike_18 : decode cX10_mostAlike 18 = .ok (.iload 6, 2) := by decide +kernel
theorem dX10_mostAlike_20 : decode cX10_mostAlike 20 = .ok (.bipush 6, 2) := by decide +kernel
theorem dX10_mostAlike_22 : decode cX10_mostAlike 22 = .ok (.if_icmp .gt 68, 3) := by decide +kernel
theorem dX10_mostAlike_25 : decode cX10_mostAlike 25 = .ok (.iload_n 1, 1) := by decide +kernel
theorem dX10_mostAlike_26 : decode cX10_mostAlike 26 = .ok (.iload 4, 2) := by decide +kernel
theorem dX10_mostAlike_28 : decode cX10_mostAlike 28 = .ok (.ishr, 1) := by decide +kernel
theorem dX10_mostAlike_29 : decode cX10_mostAlike 29 = .ok (.iconst 1, 1) := by decide +kernel
theorem dX10_mostAlike_30 : decode cX10_mostAlike 30 = .ok (.iand, 1) := by decide +kernel
theorem dX10_mostAlike_31 : decode cX10_mostAlike 31 = .ok (.iconst 1, 1) := by decide +kernel
theorem dX10_mostAlike_32 : decode cX10_mostAlike 32 = .ok (.if_icmp .ne 17, 3) := by decide +kernel
theorem dX10_mostAlike_35 : decode cX10_mostAlike 35 = .ok (.iload_n 1, 1) := by decide +kernel
theorem dX10_mostAlike_36 : decode cX10_mostAlike 36 = .ok (.iload 6, 2) := by decide +kernel
theorem dX10_mostAlike_38 : decode cX10_mostAlike 38 = .ok (.ishr, 1) := by decide +kernel
theorem dX10_mostAlike_39 : decode cX10_mostAlike 39 = .ok (.iconst 1, 1) := by decide +kernel
theorem dX10_mostAlike_40 : decode cX10_mostAlike 40 = .ok (.iand, 1) := by decide +kernel
theorem dX10_mostAlike_41 : decode cX10_mostAlike 41 = .ok (.iconst 1, 1) := by decide +kernel
theorem dX10_mostAlike_42 : decode cX10_mostAlike 42 = .ok (.if_icmp .ne 7, 3) := by decide +kernel
theorem dX10_mostAlike_45 : decode cX10_mostAlike 45 = .ok (.iconst 1, 1) := by decide +kernel
theorem dX10_mostAlike_46 : decode cX10_mostAlike 46 = .ok (.goto 4, 3) := by decide +kernel
theorem dX10_mostAlike_49 : decode cX10_mostAlike 49 = .ok (.iconst 0, 1) := by decide +kernel
theorem dX10_mostAlike_50 : decode cX10_mostAlike 50 = .ok (.istore 7, 2) := by decide +kernel
theorem dX10_mostAlike_52 : decode cX10_mostAlike 52 = .ok (.iload 5, 2) := by decide +kernel
theorem dX10_mostAlike_54 : decode cX10_mostAlike 54 = .ok (.iload 7, 2) := by decide +kernel
theorem dX10_mostAlike_56 : decode cX10_mostAlike 56 = .ok (.ifCond .eq 24, 3) := by decide +kernel
theorem dX10_mostAlike_59 : decode cX10_mostAlike 59 = .ok (.aload_n 0, 1) := by decide +kernel
theorem dX10_mostAlike_60 : decode cX10_mostAlike 60 = .ok (.iload 4, 2) := by decide +kernel
theorem dX10_mostAlike_62 : decode cX10_mostAlike 62 = .ok (.iload_n 2, 1) := by decide +kernel
theorem dX10_mostAlike_63 : decode cX10_mostAlike 63 = .ok (.invokevirtual 262, 3) := by decide +kernel
theorem dX10_mostAlike_66 : decode cX10_mostAlike 66 = .ok (.aload_n 0, 1) := by decide +kernel
theorem dX10_mostAlike_67 : decode cX10_mostAlike 67 = .ok (.iload 6, 2) := by decide +kernel
theorem dX10_mostAlike_69 : decode cX10_mostAlike 69 = .ok (.iload_n 2, 1) := by decide +kernel
theorem dX10_mostAlike_70 : decode cX10_mostAlike 70 = .ok (.invokevirtual 262, 3) := by decide +kernel
theorem dX10_mostAlike_73 : decode cX10_mostAlike 73 = .ok (.if_icmp .ne 7, 3) := by decide +kernel
theorem dX10_mostAlike_76 : decode cX10_mostAlike 76 = .ok (.iconst 1, 1) := by decide +kernel
theorem dX10_mostAlike_77 : decode cX10_mostAlike 77 = .ok (.goto 4, 3) := by decide +kernel
theorem dX10_mostAlike_80 : decode cX10_mostAlike 80 = .ok (.iconst 0, 1) := by decide +kernel
theorem dX10_mostAlike_81 : decode cX10_mostAlike 81 = .ok (.iadd, 1) := by decide +kernel
theorem dX10_mostAlike_82 : decode cX10_mostAlike 82 = .ok (.istore 5, 2) := by decide +kernel
theorem dX10_mostAlike_84 : decode cX10_mostAlike 84 = .ok (.iinc 6 1, 3) := by decide +kernel
theorem dX10_mostAlike_87 : decode cX10_mostAlike 87 = .ok (.goto (-69), 3) := by decide +kernel
theorem dX10_mostAlike_90 : decode cX10_mostAlike 90 = .ok (.iload 5, 2) := by decide +kernel
theorem dX10_mostAlike_92 : decode cX10_mostAlike 92 = .ok (.iload_n 3, 1) := by decide +kernel
theorem dX10_mostAlike_93 : decode cX10_mostAlike 93 = .ok (.if_icmp .le 8, 3) := by decide +kernel
theorem dX10_mostAlike_96 : decode cX10_mostAlike 96 = .ok (.iload 5, 2) := by decide +kernel
theorem dX10_mostAlike_98 : decode cX10_mostAlike 98 = .ok (.goto 4, 3) := by decide +kernel
theorem dX10_mostAlike_101 : decode cX10_mostAlike 101 = .ok (.iload_n 3, 1) := by decide +kernel
theorem dX10_mostAlike_102 : decode cX10_mostAlike 102 = .ok (.istore_n 3, 1) := by decide +kernel
theorem dX10_mostAlike_103 : decode cX10_mostAlike 103 = .ok (.iinc 4 1, 3) := by decide +kernel
theorem dX10_mostAlike_106 : decode cX10_mostAlike 106 = .ok (.goto (-101), 3) := by decide +kernel
theorem dX10_mostAlike_109 : decode cX10_mostAlike 109 = .ok (.iload_n 3, 1) := by decide +kernel
theorem dX10_mostAlike_110 : decode cX10_mostAlike 110 = .ok (.ireturn, 1) := by decide +kernel
theorem dX10_ask_0 : decode cX10_ask 0 = .ok (.iload_n 1, 1) := by decide +kernel
theorem dX10_ask_1 : decode cX10_ask 1 = .ok (.i2l, 1) := by decide +kernel
theorem dX10_ask_2 : decode cX10_ask 2 = .ok (.lconst 0, 1) := by decide +kernel
theorem dX10_ask_3 : decode cX10_ask 3 = .ok (.lconst 1, 1) := by decide +kernel
theorem dX10_ask_4 : decode cX10_ask 4 = .ok (.invokestatic 94, 3) := by decide +kernel
theorem dX10_ask_7 : decode cX10_ask 7 = .ok (.ifCond .ne 6, 3) := by decide +kernel
theorem dX10_ask_10 : decode cX10_ask 10 = .ok (.bipush (-2), 2) := by decide +kernel
theorem dX10_ask_12 : decode cX10_ask 12 = .ok (.ireturn, 1) := by decide +kernel
theorem dX10_ask_13 : decode cX10_ask 13 = .ok (.aload_n 0, 1) := by decide +kernel
theorem dX10_ask_14 : decode cX10_ask 14 = .ok (.invokevirtual 268, 3) := by decide +kernel
theorem dX10_ask_17 : decode cX10_ask 17 = .ok (.istore_n 2, 1) := by decide +kernel
theorem dX10_ask_18 : decode cX10_ask 18 = .ok (.bipush (-6), 2) := by decide +kernel
theorem dX10_ask_20 : decode cX10_ask 20 = .ok (.istore_n 3, 1) := by decide +kernel
theorem dX10_ask_21 : decode cX10_ask 21 = .ok (.iconst 0, 1) := by decide +kernel
theorem dX10_ask_22 : decode cX10_ask 22 = .ok (.istore 4, 2) := by decide +kernel
theorem dX10_ask_24 : decode cX10_ask 24 = .ok (.iload 4, 2) := by decide +kernel
theorem dX10_ask_26 : decode cX10_ask 26 = .ok (.bipush 6, 2) := by decide +kernel
theorem dX10_ask_28 : decode cX10_ask 28 = .ok (.if_icmp .ge 49, 3) := by decide +kernel
theorem dX10_ask_31 : decode cX10_ask 31 = .ok (.iload_n 2, 1) := by decide +kernel
theorem dX10_ask_32 : decode cX10_ask 32 = .ok (.ifCond .eq 45, 3) := by decide +kernel
theorem dX10_ask_35 : decode cX10_ask 35 = .ok (.aload_n 0, 1) := by decide +kernel
theorem dX10_ask_36 : decode cX10_ask 36 = .ok (.iload 4, 2) := by decide +kernel
theorem dX10_ask_38 : decode cX10_ask 38 = .ok (.invokevirtual 109, 3) := by decide +kernel
theorem dX10_ask_41 : decode cX10_ask 41 = .ok (.ifCond .eq 28, 3) := by decide +kernel
theorem dX10_ask_44 : decode cX10_ask 44 = .ok (.iload_n 3, 1) := by decide +kernel
theorem dX10_ask_45 : decode cX10_ask 45 = .ok (.ifCond .lt 19, 3) := by decide +kernel
theorem dX10_ask_48 : decode cX10_ask 48 = .ok (.aload_n 0, 1) := by decide +kernel
theorem dX10_ask_49 : decode cX10_ask 49 = .ok (.iload_n 2, 1) := by decide +kernel
theorem dX10_ask_50 : decode cX10_ask 50 = .ok (.iload 4, 2) := by decide +kernel
theorem dX10_ask_52 : decode cX10_ask 52 = .ok (.invokevirtual 271, 3) := by decide +kernel
theorem dX10_ask_55 : decode cX10_ask 55 = .ok (.aload_n 0, 1) := by decide +kernel
theorem dX10_ask_56 : decode cX10_ask 56 = .ok (.iload_n 2, 1) := by decide +kernel
theorem dX10_ask_57 : decode cX10_ask 57 = .ok (.iload_n 3, 1) := by decide +kernel
theorem dX10_ask_58 : decode cX10_ask 58 = .ok (.invokevirtual 271, 3) := by decide +kernel
theorem dX10_ask_61 : decode cX10_ask 61 = .ok (.if_icmp .ge 8, 3) := by decide +kernel
theorem dX10_ask_64 : decode cX10_ask 64 = .ok (.iload 4, 2) := by decide +kernel
theorem dX10_ask_66 : decode cX10_ask 66 = .ok (.goto 4, 3) := by decide +kernel
theorem dX10_ask_69 : decode cX10_ask 69 = .ok (.iload_n 3, 1) := by decide +kernel
theorem dX10_ask_70 : decode cX10_ask 70 = .ok (.istore_n 3, 1) := by decide +kernel
theorem dX10_ask_71 : decode cX10_ask 71 = .ok (.iinc 4 1, 3) := by decide +kernel
theorem dX10_ask_74 : decode cX10_ask 74 = .ok (.goto (-50), 3) := by decide +kernel
theorem dX10_ask_77 : decode cX10_ask 77 = .ok (.iload_n 3, 1) := by decide +kernel
theorem dX10_ask_78 : decode cX10_ask 78 = .ok (.ifCond .lt 7, 3) := by decide +kernel
theorem dX10_ask_81 : decode cX10_ask 81 = .ok (.iload_n 1, 1) := by decide +kernel
theorem dX10_ask_82 : decode cX10_ask 82 = .ok (.ifCond .ne 7, 3) := by decide +kernel
theorem dX10_ask_85 : decode cX10_ask 85 = .ok (.iload_n 3, 1) := by decide +kernel
theorem dX10_ask_86 : decode cX10_ask 86 = .ok (.goto 9, 3) := by decide +kernel
theorem dX10_ask_89 : decode cX10_ask 89 = .ok (.aload_n 0, 1) := by decide +kernel
theorem dX10_ask_90 : decode cX10_ask 90 = .ok (.iload_n 2, 1) := by decide +kernel
theorem dX10_ask_91 : decode cX10_ask 91 = .ok (.iload_n 3, 1) := by decide +kernel
theorem dX10_ask_92 : decode cX10_ask 92 = .ok (.invokevirtual 271, 3) := by decide +kernel
theorem dX10_ask_95 : decode cX10_ask 95 = .ok (.ireturn, 1) := by decide +kernel
theorem dX10_thieves_0 : decode cX10_thieves 0 = .ok (.iload_n 1, 1) := by decide +kernel
theorem dX10_thieves_1 : decode cX10_thieves 1 = .ok (.i2l, 1) := by decide +kernel
theorem dX10_thieves_2 : decode cX10_thieves 2 = .ok (.lconst 1, 1) := by decide +kernel
theorem dX10_thieves_3 : decode cX10_thieves 3 = .ok (.ldc2_w 101, 3) := by decide +kernel
theorem dX10_thieves_6 : decode cX10_thieves 6 = .ok (.invokestatic 94, 3) := by decide +kernel
theorem dX10_thieves_9 : decode cX10_thieves 9 = .ok (.ifCond .eq 25, 3) := by decide +kernel
theorem dX10_thieves_12 : decode cX10_thieves 12 = .ok (.iload_n 2, 1) := by decide +kernel
theorem dX10_thieves_13 : decode cX10_thieves 13 = .ok (.i2l, 1) := by decide +kernel
theorem dX10_thieves_14 : decode cX10_thieves 14 = .ok (.lconst 1, 1) := by decide +kernel
theorem dX10_thieves_15 : decode cX10_thieves 15 = .ok (.ldc2_w 103, 3) := by decide +kernel
theorem dX10_thieves_18 : decode cX10_thieves 18 = .ok (.invokestatic 94, 3) := by decide +kernel
theorem dX10_thieves_21 : decode cX10_thieves 21 = .ok (.ifCond .eq 13, 3) := by decide +kernel
theorem dX10_thieves_24 : decode cX10_thieves 24 = .ok (.iload_n 3, 1) := by decide +kernel
theorem dX10_thieves_25 : decode cX10_thieves 25 = .ok (.i2l, 1) := by decide +kernel
theorem dX10_thieves_26 : decode cX10_thieves 26 = .ok (.lconst 0, 1) := by decide +kernel
theorem dX10_thieves_27 : decode cX10_thieves 27 = .ok (.lconst 1, 1) := by decide +kernel
theorem dX10_thieves_28 : decode cX10_thieves 28 = .ok (.invokestatic 94, 3) := by decide +kernel
theorem dX10_thieves_31 : decode cX10_thieves 31 = .ok (.ifCond .ne 6, 3) := by decide +kernel
theorem dX10_thieves_34 : decode cX10_thieves 34 = .ok (.bipush (-2), 2) := by decide +kernel
theorem dX10_thieves_36 : decode cX10_thieves 36 = .ok (.ireturn, 1) := by decide +kernel
theorem dX10_thieves_37 : decode cX10_thieves 37 = .ok (.iload_n 1, 1) := by decide +kernel
theorem dX10_thieves_38 : decode cX10_thieves 38 = .ok (.iconst 1, 1) := by decide +kernel
theorem dX10_thieves_39 : decode cX10_thieves 39 = .ok (.isub, 1) := by decide +kernel
theorem dX10_thieves_40 : decode cX10_thieves 40 = .ok (.iload_n 2, 1) := by decide +kernel
theorem dX10_thieves_41 : decode cX10_thieves 41 = .ok (.iconst 1, 1) := by decide +kernel
theorem dX10_thieves_42 : decode cX10_thieves 42 = .ok (.iadd, 1) := by decide +kernel
theorem dX10_thieves_43 : decode cX10_thieves 43 = .ok (.irem, 1) := by decide +kernel
theorem dX10_thieves_44 : decode cX10_thieves 44 = .ok (.istore 4, 2) := by decide +kernel
theorem dX10_thieves_46 : decode cX10_thieves 46 = .ok (.iload_n 3, 1) := by decide +kernel
theorem dX10_thieves_47 : decode cX10_thieves 47 = .ok (.ifCond .ne 16, 3) := by decide +kernel
theorem dX10_thieves_50 : decode cX10_thieves 50 = .ok (.iload 4, 2) := by decide +kernel
theorem dX10_thieves_52 : decode cX10_thieves 52 = .ok (.ifCond .le 7, 3) := by decide +kernel
theorem dX10_thieves_55 : decode cX10_thieves 55 = .ok (.iconst 1, 1) := by decide +kernel
theorem dX10_thieves_56 : decode cX10_thieves 56 = .ok (.goto 19, 3) := by decide +kernel
theorem dX10_thieves_59 : decode cX10_thieves 59 = .ok (.iconst 0, 1) := by decide +kernel
theorem dX10_thieves_60 : decode cX10_thieves 60 = .ok (.goto 15, 3) := by decide +kernel
theorem dX10_thieves_63 : decode cX10_thieves 63 = .ok (.iload 4, 2) := by decide +kernel
theorem dX10_thieves_65 : decode cX10_thieves 65 = .ok (.ifCond .le 8, 3) := by decide +kernel
theorem dX10_thieves_68 : decode cX10_thieves 68 = .ok (.iload 4, 2) := by decide +kernel
theorem dX10_thieves_70 : decode cX10_thieves 70 = .ok (.goto 5, 3) := by decide +kernel
theorem dX10_thieves_73 : decode cX10_thieves 73 = .ok (.bipush (-6), 2) := by decide +kernel
theorem dX10_thieves_75 : decode cX10_thieves 75 = .ok (.ireturn, 1) := by decide +kernel
theorem dX10_lowest_0 : decode cX10_lowest 0 = .ok (.lload_n 2, 1) := by decide +kernel
theorem dX10_lowest_1 : decode cX10_lowest 1 = .ok (.lstore 5, 2) := by decide +kernel
theorem dX10_lowest_3 : decode cX10_lowest 3 = .ok (.lload_n 0, 1) := by decide +kernel
theorem dX10_lowest_4 : decode cX10_lowest 4 = .ok (.lstore 7, 2) := by decide +kernel
theorem dX10_lowest_6 : decode cX10_lowest 6 = .ok (.lload 7, 2) := by decide +kernel
theorem dX10_lowest_8 : decode cX10_lowest 8 = .ok (.lconst 0, 1) := by decide +kernel
theorem dX10_lowest_9 : decode cX10_lowest 9 = .ok (.lcmp, 1) := by decide +kernel
theorem dX10_lowest_10 : decode cX10_lowest 10 = .ok (.ifCond .eq 21, 3) := by decide +kernel
theorem dX10_lowest_13 : decode cX10_lowest 13 = .ok (.lload 5, 2) := by decide +kernel
theorem dX10_lowest_15 : decode cX10_lowest 15 = .ok (.lload 7, 2) := by decide +kernel
theorem dX10_lowest_17 : decode cX10_lowest 17 = .ok (.lrem, 1) := by decide +kernel
theorem dX10_lowest_18 : decode cX10_lowest 18 = .ok (.lstore 9, 2) := by decide +kernel
theorem dX10_lowest_20 : decode cX10_lowest 20 = .ok (.lload 7, 2) := by decide +kernel
theorem dX10_lowest_22 : decode cX10_lowest 22 = .ok (.lstore 5, 2) := by decide +kernel
theorem dX10_lowest_24 : decode cX10_lowest 24 = .ok (.lload 9, 2) := by decide +kernel
theorem dX10_lowest_26 : decode cX10_lowest 26 = .ok (.lstore 7, 2) := by decide +kernel
theorem dX10_lowest_28 : decode cX10_lowest 28 = .ok (.goto (-22), 3) := by decide +kernel
theorem dX10_lowest_31 : decode cX10_lowest 31 = .ok (.iload 4, 2) := by decide +kernel
theorem dX10_lowest_33 : decode cX10_lowest 33 = .ok (.ifCond .ne 10, 3) := by decide +kernel
theorem dX10_lowest_36 : decode cX10_lowest 36 = .ok (.lload_n 0, 1) := by decide +kernel
theorem dX10_lowest_37 : decode cX10_lowest 37 = .ok (.lload 5, 2) := by decide +kernel
theorem dX10_lowest_39 : decode cX10_lowest 39 = .ok (.ldiv, 1) := by decide +kernel
theorem dX10_lowest_40 : decode cX10_lowest 40 = .ok (.goto 7, 3) := by decide +kernel
theorem dX10_lowest_43 : decode cX10_lowest 43 = .ok (.lload_n 2, 1) := by decide +kernel
theorem dX10_lowest_44 : decode cX10_lowest 44 = .ok (.lload 5, 2) := by decide +kernel
theorem dX10_lowest_46 : decode cX10_lowest 46 = .ok (.ldiv, 1) := by decide +kernel
theorem dX10_lowest_47 : decode cX10_lowest 47 = .ok (.lreturn, 1) := by decide +kernel
theorem dX10_wormyDay_0 : decode cX10_wormyDay 0 = .ok (.iconst 0, 1) := by decide +kernel
theorem dX10_wormyDay_1 : decode cX10_wormyDay 1 = .ok (.istore_n 3, 1) := by decide +kernel
theorem dX10_wormyDay_2 : decode cX10_wormyDay 2 = .ok (.iload_n 3, 1) := by decide +kernel
theorem dX10_wormyDay_3 : decode cX10_wormyDay 3 = .ok (.bipush 99, 2) := by decide +kernel
theorem dX10_wormyDay_5 : decode cX10_wormyDay 5 = .ok (.if_icmp .gt 16, 3) := by decide +kernel
theorem dX10_wormyDay_8 : decode cX10_wormyDay 8 = .ok (.aload_n 0, 1) := by decide +kernel
theorem dX10_wormyDay_9 : decode cX10_wormyDay 9 = .ok (.getfield 75, 3) := by decide +kernel
theorem dX10_wormyDay_12 : decode cX10_wormyDay 12 = .ok (.iload_n 3, 1) := by decide +kernel
theorem dX10_wormyDay_13 : decode cX10_wormyDay 13 = .ok (.lconst 0, 1) := by decide +kernel
theorem dX10_wormyDay_14 : decode cX10_wormyDay 14 = .ok (.lastore, 1) := by decide +kernel
theorem dX10_wormyDay_15 : decode cX10_wormyDay 15 = .ok (.iinc 3 1, 3) := by decide +kernel
theorem dX10_wormyDay_18 : decode cX10_wormyDay 18 = .ok (.goto (-16), 3) := by decide +kernel
theorem dX10_wormyDay_21 : decode cX10_wormyDay 21 = .ok (.iconst 0, 1) := by decide +kernel
theorem dX10_wormyDay_22 : decode cX10_wormyDay 22 = .ok (.istore_n 3, 1) := by decide +kernel
theorem dX10_wormyDay_23 : decode cX10_wormyDay 23 = .ok (.iload_n 3, 1) := by decide +kernel
theorem dX10_wormyDay_24 : decode cX10_wormyDay 24 = .ok (.bipush 99, 2) := by decide +kernel
theorem dX10_wormyDay_26 : decode cX10_wormyDay 26 = .ok (.if_icmp .gt 61, 3) := by decide +kernel
theorem dX10_wormyDay_29 : decode cX10_wormyDay 29 = .ok (.aload_n 0, 1) := by decide +kernel
theorem dX10_wormyDay_30 : decode cX10_wormyDay 30 = .ok (.getfield 75, 3) := by decide +kernel
theorem dX10_wormyDay_33 : decode cX10_wormyDay 33 = .ok (.aload_n 0, 1) := by decide +kernel
theorem dX10_wormyDay_34 : decode cX10_wormyDay 34 = .ok (.iload_n 1, 1) := by decide +kernel
theorem dX10_wormyDay_35 : decode cX10_wormyDay 35 = .ok (.iload_n 3, 1) := by decide +kernel
theorem dX10_wormyDay_36 : decode cX10_wormyDay 36 = .ok (.iconst 0, 1) := by decide +kernel
theorem dX10_wormyDay_37 : decode cX10_wormyDay 37 = .ok (.invokevirtual 147, 3) := by decide +kernel
theorem dX10_wormyDay_40 : decode cX10_wormyDay 40 = .ok (.dup2, 1) := by decide +kernel
theorem dX10_wormyDay_41 : decode cX10_wormyDay 41 = .ok (.laload, 1) := by decide +kernel
theorem dX10_wormyDay_42 : decode cX10_wormyDay 42 = .ok (.iload_n 2, 1) := by decide +kernel
theorem dX10_wormyDay_43 : decode cX10_wormyDay 43 = .ok (.i2l, 1) := by decide +kernel
theorem dX10_wormyDay_44 : decode cX10_wormyDay 44 = .ok (.aload_n 0, 1) := by decide +kernel
theorem dX10_wormyDay_45 : decode cX10_wormyDay 45 = .ok (.getfield 71, 3) := by decide +kernel
theorem dX10_wormyDay_48 : decode cX10_wormyDay 48 = .ok (.iload_n 3, 1) := by decide +kernel
theorem dX10_wormyDay_49 : decode cX10_wormyDay 49 = .ok (.laload, 1) := by decide +kernel
theorem dX10_wormyDay_50 : decode cX10_wormyDay 50 = .ok (.lmul, 1) := by decide +kernel
theorem dX10_wormyDay_51 : decode cX10_wormyDay 51 = .ok (.ladd, 1) := by decide +kernel
theorem dX10_wormyDay_52 : decode cX10_wormyDay 52 = .ok (.lastore, 1) := by decide +kernel
theorem dX10_wormyDay_53 : decode cX10_wormyDay 53 = .ok (.aload_n 0, 1) := by decide +kernel
theorem dX10_wormyDay_54 : decode cX10_wormyDay 54 = .ok (.getfield 75, 3) := by decide +kernel
theorem dX10_wormyDay_57 : decode cX10_wormyDay 57 = .ok (.aload_n 0, 1) := by decide +kernel
theorem dX10_wormyDay_58 : decode cX10_wormyDay 58 = .ok (.iload_n 1, 1) := by decide +kernel
theorem dX10_wormyDay_59 : decode cX10_wormyDay 59 = .ok (.iload_n 3, 1) := by decide +kernel
theorem dX10_wormyDay_60 : decode cX10_wormyDay 60 = .ok (.iconst 2, 1) := by decide +kernel
theorem dX10_wormyDay_61 : decode cX10_wormyDay 61 = .ok (.invokevirtual 147, 3) := by decide +kernel
theorem dX10_wormyDay_64 : decode cX10_wormyDay 64 = .ok (.dup2, 1) := by decide +kernel
theorem dX10_wormyDay_65 : decode cX10_wormyDay 65 = .ok (.laload, 1) := by decide +kernel
theorem dX10_wormyDay_66 : decode cX10_wormyDay 66 = .ok (.ldc2_w 274, 3) := by decide +kernel
theorem dX10_wormyDay_69 : decode cX10_wormyDay 69 = .ok (.iload_n 2, 1) := by decide +kernel
theorem dX10_wormyDay_70 : decode cX10_wormyDay 70 = .ok (.i2l, 1) := by decide +kernel
theorem dX10_wormyDay_71 : decode cX10_wormyDay 71 = .ok (.lsub, 1) := by decide +kernel
theorem dX10_wormyDay_72 : decode cX10_wormyDay 72 = .ok (.aload_n 0, 1) := by decide +kernel
theorem dX10_wormyDay_73 : decode cX10_wormyDay 73 = .ok (.getfield 71, 3) := by decide +kernel
theorem dX10_wormyDay_76 : decode cX10_wormyDay 76 = .ok (.iload_n 3, 1) := by decide +kernel
theorem dX10_wormyDay_77 : decode cX10_wormyDay 77 = .ok (.laload, 1) := by decide +kernel
theorem dX10_wormyDay_78 : decode cX10_wormyDay 78 = .ok (.lmul, 1) := by decide +kernel
theorem dX10_wormyDay_79 : decode cX10_wormyDay 79 = .ok (.ladd, 1) := by decide +kernel
theorem dX10_wormyDay_80 : decode cX10_wormyDay 80 = .ok (.lastore, 1) := by decide +kernel
theorem dX10_wormyDay_81 : decode cX10_wormyDay 81 = .ok (.iinc 3 1, 3) := by decide +kernel
theorem dX10_wormyDay_84 : decode cX10_wormyDay 84 = .ok (.goto (-61), 3) := by decide +kernel
theorem dX10_wormyDay_87 : decode cX10_wormyDay 87 = .ok (.iconst 0, 1) := by decide +kernel
theorem dX10_wormyDay_88 : decode cX10_wormyDay 88 = .ok (.istore_n 3, 1) := by decide +kernel
theorem dX10_wormyDay_89 : decode cX10_wormyDay 89 = .ok (.iload_n 3, 1) := by decide +kernel
theorem dX10_wormyDay_90 : decode cX10_wormyDay 90 = .ok (.bipush 99, 2) := by decide +kernel
theorem dX10_wormyDay_92 : decode cX10_wormyDay 92 = .ok (.if_icmp .gt 21, 3) := by decide +kernel
theorem dX10_wormyDay_95 : decode cX10_wormyDay 95 = .ok (.aload_n 0, 1) := by decide +kernel
theorem dX10_wormyDay_96 : decode cX10_wormyDay 96 = .ok (.getfield 71, 3) := by decide +kernel
theorem dX10_wormyDay_99 : decode cX10_wormyDay 99 = .ok (.iload_n 3, 1) := by decide +kernel
theorem dX10_wormyDay_100 : decode cX10_wormyDay 100 = .ok (.aload_n 0, 1) := by decide +kernel
theorem dX10_wormyDay_101 : decode cX10_wormyDay 101 = .ok (.getfield 75, 3) := by decide +kernel
theorem dX10_wormyDay_104 : decode cX10_wormyDay 104 = .ok (.iload_n 3, 1) := by decide +kernel
theorem dX10_wormyDay_105 : decode cX10_wormyDay 105 = .ok (.laload, 1) := by decide +kernel
theorem dX10_wormyDay_106 : decode cX10_wormyDay 106 = .ok (.lastore, 1) := by decide +kernel
theorem dX10_wormyDay_107 : decode cX10_wormyDay 107 = .ok (.iinc 3 1, 3) := by decide +kernel
theorem dX10_wormyDay_110 : decode cX10_wormyDay 110 = .ok (.goto (-21), 3) := by decide +kernel
theorem dX10_wormyDay_113 : decode cX10_wormyDay 113 = .ok (.return_, 1) := by decide +kernel
theorem dX10_worms_0 : decode cX10_worms 0 = .ok (.aload_n 0, 1) := by decide +kernel
theorem dX10_worms_1 : decode cX10_worms 1 = .ok (.iload_n 1, 1) := by decide +kernel
theorem dX10_worms_2 : decode cX10_worms 2 = .ok (.invokevirtual 109, 3) := by decide +kernel
theorem dX10_worms_5 : decode cX10_worms 5 = .ok (.ifCond .ne 7, 3) := by decide +kernel
theorem dX10_worms_8 : decode cX10_worms 8 = .ok (.ldc2_w 276, 3) := by decide +kernel
theorem dX10_worms_11 : decode cX10_worms 11 = .ok (.lreturn, 1) := by decide +kernel
theorem dX10_worms_12 : decode cX10_worms 12 = .ok (.iload_n 2, 1) := by decide +kernel
theorem dX10_worms_13 : decode cX10_worms 13 = .ok (.i2l, 1) := by decide +kernel
theorem dX10_worms_14 : decode cX10_worms 14 = .ok (.lconst 0, 1) := by decide +kernel
theorem dX10_worms_15 : decode cX10_worms 15 = .ok (.ldc2_w 237, 3) := by decide +kernel
theorem dX10_worms_18 : decode cX10_worms 18 = .ok (.invokestatic 94, 3) := by decide +kernel
theorem dX10_worms_21 : decode cX10_worms 21 = .ok (.ifCond .eq 41, 3) := by decide +kernel
theorem dX10_worms_24 : decode cX10_worms 24 = .ok (.iload_n 3, 1) := by decide +kernel
theorem dX10_worms_25 : decode cX10_worms 25 = .ok (.i2l, 1) := by decide +kernel
theorem dX10_worms_26 : decode cX10_worms 26 = .ok (.lconst 0, 1) := by decide +kernel
theorem dX10_worms_27 : decode cX10_worms 27 = .ok (.ldc2_w 274, 3) := by decide +kernel
theorem dX10_worms_30 : decode cX10_worms 30 = .ok (.invokestatic 94, 3) := by decide +kernel
theorem dX10_worms_33 : decode cX10_worms 33 = .ok (.ifCond .eq 29, 3) := by decide +kernel
theorem dX10_worms_36 : decode cX10_worms 36 = .ok (.iload 4, 2) := by decide +kernel
theorem dX10_worms_38 : decode cX10_worms 38 = .ok (.i2l, 1) := by decide +kernel
theorem dX10_worms_39 : decode cX10_worms 39 = .ok (.ldc2_w 278, 3) := by decide +kernel
theorem dX10_worms_42 : decode cX10_worms 42 = .ok (.ldc2_w 101, 3) := by decide +kernel
theorem dX10_worms_45 : decode cX10_worms 45 = .ok (.invokestatic 94, 3) := by decide +kernel
theorem dX10_worms_48 : decode cX10_worms 48 = .ok (.ifCond .eq 14, 3) := by decide +kernel
theorem dX10_worms_51 : decode cX10_worms 51 = .ok (.iload 5, 2) := by decide +kernel
theorem dX10_worms_53 : decode cX10_worms 53 = .ok (.i2l, 1) := by decide +kernel
theorem dX10_worms_54 : decode cX10_worms 54 = .ok (.lconst 0, 1) := by decide +kernel
theorem dX10_worms_55 : decode cX10_worms 55 = .ok (.lconst 1, 1) := by decide +kernel
theorem dX10_worms_56 : decode cX10_worms 56 = .ok (.invokestatic 94, 3) := by decide +kernel
theorem dX10_worms_59 : decode cX10_worms 59 = .ok (.ifCond .ne 7, 3) := by decide +kernel
theorem dX10_worms_62 : decode cX10_worms 62 = .ok (.ldc2_w 280, 3) := by decide +kernel
theorem dX10_worms_65 : decode cX10_worms 65 = .ok (.lreturn, 1) := by decide +kernel
theorem dX10_worms_66 : decode cX10_worms 66 = .ok (.iconst 0, 1) := by decide +kernel
theorem dX10_worms_67 : decode cX10_worms 67 = .ok (.istore 6, 2) := by decide +kernel
theorem dX10_worms_69 : decode cX10_worms 69 = .ok (.iload 6, 2) := by decide +kernel
theorem dX10_worms_71 : decode cX10_worms 71 = .ok (.bipush 99, 2) := by decide +kernel
theorem dX10_worms_73 : decode cX10_worms 73 = .ok (.if_icmp .gt 32, 3) := by decide +kernel
theorem dX10_worms_76 : decode cX10_worms 76 = .ok (.aload_n 0, 1) := by decide +kernel
theorem dX10_worms_77 : decode cX10_worms 77 = .ok (.getfield 71, 3) := by decide +kernel
theorem dX10_worms_80 : decode cX10_worms 80 = .ok (.iload 6, 2) := by decide +kernel
theorem dX10_worms_82 : decode cX10_worms 82 = .ok (.iload 6, 2) := by decide +kernel
theorem dX10_worms_84 : decode cX10_worms 84 = .ok (.aload_n 0, 1) := by decide +kernel
theorem dX10_worms_85 : decode cX10_worms 85 = .ok (.getfield 7, 3) := by decide +kernel
theorem dX10_worms_88 : decode cX10_worms 88 = .ok (.iload_n 1, 1) := by decide +kernel
theorem dX10_worms_89 : decode cX10_worms 89 = .ok (.iaload, 1) := by decide +kernel
theorem dX10_worms_90 : decode cX10_worms 90 = .ok (.if_icmp .ne 7, 3) := by decide +kernel
theorem dX10_worms_93 : decode cX10_worms 93 = .ok (.lconst 1, 1) := by decide +kernel
theorem dX10_worms_94 : decode cX10_worms 94 = .ok (.goto 4, 3) := by decide +kernel
theorem dX10_worms_97 : decode cX10_worms 97 = .ok (.lconst 0, 1) := by decide +kernel
theorem dX10_worms_98 : decode cX10_worms 98 = .ok (.lastore, 1) := by decide +kernel
theorem dX10_worms_99 : decode cX10_worms 99 = .ok (.iinc 6 1, 3) := by decide +kernel
theorem dX10_worms_102 : decode cX10_worms 102 = .ok (.goto (-33), 3) := by decide +kernel
theorem dX10_worms_105 : decode cX10_worms 105 = .ok (.lconst 1, 1) := by decide +kernel
theorem dX10_worms_106 : decode cX10_worms 106 = .ok (.lstore 6, 2) := by decide +kernel
theorem dX10_worms_108 : decode cX10_worms 108 = .ok (.iconst 0, 1) := by decide +kernel
theorem dX10_worms_109 : decode cX10_worms 109 = .ok (.istore 8, 2) := by decide +kernel
theorem dX10_worms_111 : decode cX10_worms 111 = .ok (.iload 8, 2) := by decide +kernel
theorem dX10_worms_113 : decode cX10_worms 113 = .ok (.iload_n 2, 1) := by decide +kernel
theorem dX10_worms_114 : decode cX10_worms 114 = .ok (.if_icmp .ge 23, 3) := by decide +kernel
theorem dX10_worms_117 : decode cX10_worms 117 = .ok (.aload_n 0, 1) := by decide +kernel
theorem dX10_worms_118 : decode cX10_worms 118 = .ok (.iload_n 1, 1) := by decide +kernel
theorem dX10_worms_119 : decode cX10_worms 119 = .ok (.iload_n 3, 1) := by decide +kernel
theorem dX10_worms_120 : decode cX10_worms 120 = .ok (.invokevirtual 282, 3) := by decide +kernel
theorem dX10_worms_123 : decode cX10_worms 123 = .ok (.lload 6, 2) := by decide +kernel
theorem dX10_worms_125 : decode cX10_worms 125 = .ok (.ldc2_w 274, 3) := by decide +kernel
theorem dX10_worms_128 : decode cX10_worms 128 = .ok (.lmul, 1) := by decide +kernel
theorem dX10_worms_129 : decode cX10_worms 129 = .ok (.lstore 6, 2) := by decide +kernel
theorem dX10_worms_131 : decode cX10_worms 131 = .ok (.iinc 8 1, 3) := by decide +kernel
theorem dX10_worms_134 : decode cX10_worms 134 = .ok (.goto (-23), 3) := by decide +kernel
theorem dX10_worms_137 : decode cX10_worms 137 = .ok (.lconst 0, 1) := by decide +kernel
theorem dX10_worms_138 : decode cX10_worms 138 = .ok (.lstore 8, 2) := by decide +kernel
theorem dX10_worms_140 : decode cX10_worms 140 = .ok (.iconst 0, 1) := by decide +kernel
theorem dX10_worms_141 : decode cX10_worms 141 = .ok (.istore 10, 2) := by decide +kernel
theorem dX10_worms_143 : decode cX10_worms 143 = .ok (.iload 10, 2) := by decide +kernel
theorem dX10_worms_145 : decode cX10_worms 145 = .ok (.bipush 99, 2) := by decide +kernel
theorem dX10_worms_147 : decode cX10_worms 147 = .ok (.if_icmp .gt 51, 3) := by decide +kernel
theorem dX10_worms_150 : decode cX10_worms 150 = .ok (.lload 8, 2) := by decide +kernel
theorem dX10_worms_152 : decode cX10_worms 152 = .ok (.iload 4, 2) := by decide +kernel
theorem dX10_worms_154 : decode cX10_worms 154 = .ok (.ifCond .ge 17, 3) := by decide +kernel
theorem dX10_worms_157 : decode cX10_worms 157 = .ok (.iload 10, 2) := by decide +kernel
theorem dX10_worms_159 : decode cX10_worms 159 = .ok (.i2l, 1) := by decide +kernel
theorem dX10_worms_160 : decode cX10_worms 160 = .ok (.aload_n 0, 1) := by decide +kernel
theorem dX10_worms_161 : decode cX10_worms 161 = .ok (.getfield 71, 3) := by decide +kernel
theorem dX10_worms_164 : decode cX10_worms 164 = .ok (.iload 10, 2) := by decide +kernel
theorem dX10_worms_166 : decode cX10_worms 166 = .ok (.laload, 1) := by decide +kernel
theorem dX10_worms_167 : decode cX10_worms 167 = .ok (.lmul, 1) := by decide +kernel
theorem dX10_worms_168 : decode cX10_worms 168 = .ok (.goto 21, 3) := by decide +kernel
theorem dX10_worms_171 : decode cX10_worms 171 = .ok (.iload 10, 2) := by decide +kernel
theorem dX10_worms_173 : decode cX10_worms 173 = .ok (.iload 4, 2) := by decide +kernel
theorem dX10_worms_175 : decode cX10_worms 175 = .ok (.if_icmp .gt 13, 3) := by decide +kernel
theorem dX10_worms_178 : decode cX10_worms 178 = .ok (.aload_n 0, 1) := by decide +kernel
theorem dX10_worms_179 : decode cX10_worms 179 = .ok (.getfield 71, 3) := by decide +kernel
theorem dX10_worms_182 : decode cX10_worms 182 = .ok (.iload 10, 2) := by decide +kernel
theorem dX10_worms_184 : decode cX10_worms 184 = .ok (.laload, 1) := by decide +kernel
theorem dX10_worms_185 : decode cX10_worms 185 = .ok (.goto 4, 3) := by decide +kernel
theorem dX10_worms_188 : decode cX10_worms 188 = .ok (.lconst 0, 1) := by decide +kernel
theorem dX10_worms_189 : decode cX10_worms 189 = .ok (.ladd, 1) := by decide +kernel
theorem dX10_worms_190 : decode cX10_worms 190 = .ok (.lstore 8, 2) := by decide +kernel
theorem dX10_worms_192 : decode cX10_worms 192 = .ok (.iinc 10 1, 3) := by decide +kernel
theorem dX10_worms_195 : decode cX10_worms 195 = .ok (.goto (-52), 3) := by decide +kernel
theorem dX10_worms_198 : decode cX10_worms 198 = .ok (.lload 8, 2) := by decide +kernel
theorem dX10_worms_200 : decode cX10_worms 200 = .ok (.lload 6, 2) := by decide +kernel
theorem dX10_worms_202 : decode cX10_worms 202 = .ok (.iload 5, 2) := by decide +kernel
theorem dX10_worms_204 : decode cX10_worms 204 = .ok (.invokestatic 285, 3) := by decide +kernel
theorem dX10_worms_207 : decode cX10_worms 207 = .ok (.lreturn, 1) := by decide +kernel
theorem dX10_year_0 : decode cX10_year 0 = .ok (.iload_n 1, 1) := by decide +kernel
theorem dX10_year_1 : decode cX10_year 1 = .ok (.i2l, 1) := by decide +kernel
theorem dX10_year_2 : decode cX10_year 2 = .ok (.lconst 0, 1) := by decide +kernel
theorem dX10_year_3 : decode cX10_year 3 = .ok (.ldc2_w 289, 3) := by decide +kernel
theorem dX10_year_6 : decode cX10_year 6 = .ok (.invokestatic 94, 3) := by decide +kernel
theorem dX10_year_9 : decode cX10_year 9 = .ok (.ifCond .eq 27, 3) := by decide +kernel
theorem dX10_year_12 : decode cX10_year 12 = .ok (.iload_n 2, 1) := by decide +kernel
theorem dX10_year_13 : decode cX10_year 13 = .ok (.i2l, 1) := by decide +kernel
theorem dX10_year_14 : decode cX10_year 14 = .ok (.lconst 1, 1) := by decide +kernel
theorem dX10_year_15 : decode cX10_year 15 = .ok (.ldc2_w 101, 3) := by decide +kernel
theorem dX10_year_18 : decode cX10_year 18 = .ok (.invokestatic 94, 3) := by decide +kernel
theorem dX10_year_21 : decode cX10_year 21 = .ok (.ifCond .eq 15, 3) := by decide +kernel
theorem dX10_year_24 : decode cX10_year 24 = .ok (.iload_n 3, 1) := by decide +kernel
theorem dX10_year_25 : decode cX10_year 25 = .ok (.i2l, 1) := by decide +kernel
theorem dX10_year_26 : decode cX10_year 26 = .ok (.lconst 0, 1) := by decide +kernel
theorem dX10_year_27 : decode cX10_year 27 = .ok (.ldc2_w 113, 3) := by decide +kernel
theorem dX10_year_30 : decode cX10_year 30 = .ok (.invokestatic 94, 3) := by decide +kernel
theorem dX10_year_33 : decode cX10_year 33 = .ok (.ifCond .ne 6, 3) := by decide +kernel
theorem dX10_year_36 : decode cX10_year 36 = .ok (.bipush (-2), 2) := by decide +kernel
theorem dX10_year_38 : decode cX10_year 38 = .ok (.ireturn, 1) := by decide +kernel
theorem dX10_year_39 : decode cX10_year 39 = .ok (.aload_n 0, 1) := by decide +kernel
theorem dX10_year_40 : decode cX10_year 40 = .ok (.invokevirtual 190, 3) := by decide +kernel
theorem dX10_year_43 : decode cX10_year 43 = .ok (.aload_n 0, 1) := by decide +kernel
theorem dX10_year_44 : decode cX10_year 44 = .ok (.invokevirtual 174, 3) := by decide +kernel
theorem dX10_year_47 : decode cX10_year 47 = .ok (.iload_n 1, 1) := by decide +kernel
theorem dX10_year_48 : decode cX10_year 48 = .ok (.istore 4, 2) := by decide +kernel
theorem dX10_year_50 : decode cX10_year 50 = .ok (.iconst 0, 1) := by decide +kernel
theorem dX10_year_51 : decode cX10_year 51 = .ok (.istore 5, 2) := by decide +kernel
theorem dX10_year_53 : decode cX10_year 53 = .ok (.iload 5, 2) := by decide +kernel
theorem dX10_year_55 : decode cX10_year 55 = .ok (.iload_n 2, 1) := by decide +kernel
theorem dX10_year_56 : decode cX10_year 56 = .ok (.if_icmp .ge 119, 3) := by decide +kernel
theorem dX10_year_59 : decode cX10_year 59 = .ok (.ldc2_w 291, 3) := by decide +kernel
theorem dX10_year_62 : decode cX10_year 62 = .ok (.iload 4, 2) := by decide +kernel
theorem dX10_year_64 : decode cX10_year 64 = .ok (.i2l, 1) := by decide +kernel
theorem dX10_year_65 : decode cX10_year 65 = .ok (.lmul, 1) := by decide +kernel
theorem dX10_year_66 : decode cX10_year 66 = .ok (.ldc2_w 293, 3) := by decide +kernel
theorem dX10_year_69 : decode cX10_year 69 = .ok (.ladd, 1) := by decide +kernel
theorem dX10_year_70 : decode cX10_year 70 = .ok (.ldc2_w 295, 3) := by decide +kernel
theorem dX10_year_73 : decode cX10_year 73 = .ok (.lrem, 1) := by decide +kernel
theorem dX10_year_74 : decode cX10_year 74 = .ok (.l2i, 1) := by decide +kernel
theorem dX10_year_75 : decode cX10_year 75 = .ok (.istore 4, 2) := by decide +kernel
theorem dX10_year_77 : decode cX10_year 77 = .ok (.iload 4, 2) := by decide +kernel
theorem dX10_year_79 : decode cX10_year 79 = .ok (.bipush 6, 2) := by decide +kernel
theorem dX10_year_81 : decode cX10_year 81 = .ok (.idiv, 1) := by decide +kernel
theorem dX10_year_82 : decode cX10_year 82 = .ok (.bipush 7, 2) := by decide +kernel
theorem dX10_year_84 : decode cX10_year 84 = .ok (.irem, 1) := by decide +kernel
theorem dX10_year_85 : decode cX10_year 85 = .ok (.istore 6, 2) := by decide +kernel
theorem dX10_year_87 : decode cX10_year 87 = .ok (.iload 6, 2) := by decide +kernel
theorem dX10_year_89 : decode cX10_year 89 = .ok (.iconst 2, 1) := by decide +kernel
theorem dX10_year_90 : decode cX10_year 90 = .ok (.if_icmp .ge 7, 3) := by decide +kernel
theorem dX10_year_93 : decode cX10_year 93 = .ok (.iconst 0, 1) := by decide +kernel
theorem dX10_year_94 : decode cX10_year 94 = .ok (.goto 34, 3) := by decide +kernel
theorem dX10_year_97 : decode cX10_year 97 = .ok (.iload 6, 2) := by decide +kernel
theorem dX10_year_99 : decode cX10_year 99 = .ok (.iconst 4, 1) := by decide +kernel
theorem dX10_year_100 : decode cX10_year 100 = .ok (.if_icmp .ge 7, 3) := by decide +kernel
theorem dX10_year_103 : decode cX10_year 103 = .ok (.iconst 1, 1) := by decide +kernel
theorem dX10_year_104 : decode cX10_year 104 = .ok (.goto 24, 3) := by decide +kernel
theorem dX10_year_107 : decode cX10_year 107 = .ok (.iload 6, 2) := by decide +kernel
theorem dX10_year_109 : decode cX10_year 109 = .ok (.iconst 4, 1) := by decide +kernel
theorem dX10_year_110 : decode cX10_year 110 = .ok (.if_icmp .ne 7, 3) := by decide +kernel
theorem dX10_year_113 : decode cX10_year 113 = .ok (.iconst 3, 1) := by decide +kernel
theorem dX10_year_114 : decode cX10_year 114 = .ok (.goto 14, 3) := by decide +kernel
theorem dX10_year_117 : decode cX10_year 117 = .ok (.iload 6, 2) := by decide +kernel
theorem dX10_year_119 : decode cX10_year 119 = .ok (.iconst 5, 1) := by decide +kernel
theorem dX10_year_120 : decode cX10_year 120 = .ok (.if_icmp .ne 7, 3) := by decide +kernel
theorem dX10_year_123 : decode cX10_year 123 = .ok (.iconst 5, 1) := by decide +kernel
theorem dX10_year_124 : decode cX10_year 124 = .ok (.goto 4, 3) := by decide +kernel
theorem dX10_year_127 : decode cX10_year 127 = .ok (.iconst 4, 1) := by decide +kernel
theorem dX10_year_128 : decode cX10_year 128 = .ok (.istore 7, 2) := by decide +kernel
theorem dX10_year_130 : decode cX10_year 130 = .ok (.iload 4, 2) := by decide +kernel
theorem dX10_year_132 : decode cX10_year 132 = .ok (.bipush 42, 2) := by decide +kernel
theorem dX10_year_134 : decode cX10_year 134 = .ok (.idiv, 1) := by decide +kernel
theorem dX10_year_135 : decode cX10_year 135 = .ok (.bipush 6, 2) := by decide +kernel
theorem dX10_year_137 : decode cX10_year 137 = .ok (.irem, 1) := by decide +kernel
theorem dX10_year_138 : decode cX10_year 138 = .ok (.istore 8, 2) := by decide +kernel
theorem dX10_year_140 : decode cX10_year 140 = .ok (.aload_n 0, 1) := by decide +kernel
theorem dX10_year_141 : decode cX10_year 141 = .ok (.iload 7, 2) := by decide +kernel
theorem dX10_year_143 : decode cX10_year 143 = .ok (.iload 4, 2) := by decide +kernel
theorem dX10_year_145 : decode cX10_year 145 = .ok (.bipush 6, 2) := by decide +kernel
theorem dX10_year_147 : decode cX10_year 147 = .ok (.irem, 1) := by decide +kernel
theorem dX10_year_148 : decode cX10_year 148 = .ok (.iload 8, 2) := by decide +kernel
theorem dX10_year_150 : decode cX10_year 150 = .ok (.invokevirtual 183, 3) := by decide +kernel
theorem dX10_year_153 : decode cX10_year 153 = .ok (.ifCond .ne 16, 3) := by decide +kernel
theorem dX10_year_156 : decode cX10_year 156 = .ok (.aload_n 0, 1) := by decide +kernel
theorem dX10_year_157 : decode cX10_year 157 = .ok (.iload 7, 2) := by decide +kernel
theorem dX10_year_159 : decode cX10_year 159 = .ok (.iload 4, 2) := by decide +kernel
theorem dX10_year_161 : decode cX10_year 161 = .ok (.bipush 6, 2) := by decide +kernel
theorem dX10_year_163 : decode cX10_year 163 = .ok (.irem, 1) := by decide +kernel
theorem dX10_year_164 : decode cX10_year 164 = .ok (.iload 8, 2) := by decide +kernel
theorem dX10_year_166 : decode cX10_year 166 = .ok (.invokevirtual 186, 3) := by decide +kernel
theorem dX10_year_169 : decode cX10_year 169 = .ok (.iinc 5 1, 3) := by decide +kernel
theorem dX10_year_172 : decode cX10_year 172 = .ok (.goto (-119), 3) := by decide +kernel
theorem dX10_year_175 : decode cX10_year 175 = .ok (.iconst 0, 1) := by decide +kernel
theorem dX10_year_176 : decode cX10_year 176 = .ok (.istore 5, 2) := by decide +kernel
theorem dX10_year_178 : decode cX10_year 178 = .ok (.iconst 0, 1) := by decide +kernel
theorem dX10_year_179 : decode cX10_year 179 = .ok (.istore 6, 2) := by decide +kernel
theorem dX10_year_181 : decode cX10_year 181 = .ok (.iload 6, 2) := by decide +kernel
theorem dX10_year_183 : decode cX10_year 183 = .ok (.bipush 6, 2) := by decide +kernel
theorem dX10_year_185 : decode cX10_year 185 = .ok (.if_icmp .ge 34, 3) := by decide +kernel
theorem dX10_year_188 : decode cX10_year 188 = .ok (.iload 5, 2) := by decide +kernel
theorem dX10_year_190 : decode cX10_year 190 = .ok (.aload_n 0, 1) := by decide +kernel
theorem dX10_year_191 : decode cX10_year 191 = .ok (.iload 6, 2) := by decide +kernel
theorem dX10_year_193 : decode cX10_year 193 = .ok (.invokevirtual 109, 3) := by decide +kernel
theorem dX10_year_196 : decode cX10_year 196 = .ok (.ifCond .eq 13, 3) := by decide +kernel
theorem dX10_year_199 : decode cX10_year 199 = .ok (.aload_n 0, 1) := by decide +kernel
theorem dX10_year_200 : decode cX10_year 200 = .ok (.getfield 7, 3) := by decide +kernel
theorem dX10_year_203 : decode cX10_year 203 = .ok (.iload 6, 2) := by decide +kernel
theorem dX10_year_205 : decode cX10_year 205 = .ok (.iaload, 1) := by decide +kernel
theorem dX10_year_206 : decode cX10_year 206 = .ok (.goto 4, 3) := by decide +kernel
theorem dX10_year_209 : decode cX10_year 209 = .ok (.iconst 0, 1) := by decide +kernel
theorem dX10_year_210 : decode cX10_year 210 = .ok (.iadd, 1) := by decide +kernel
theorem dX10_year_211 : decode cX10_year 211 = .ok (.istore 5, 2) := by decide +kernel
theorem dX10_year_213 : decode cX10_year 213 = .ok (.iinc 6 1, 3) := by decide +kernel
theorem dX10_year_216 : decode cX10_year 216 = .ok (.goto (-35), 3) := by decide +kernel
theorem dX10_year_219 : decode cX10_year 219 = .ok (.aload_n 0, 1) := by decide +kernel
theorem dX10_year_220 : decode cX10_year 220 = .ok (.invokevirtual 164, 3) := by decide +kernel
theorem dX10_year_223 : decode cX10_year 223 = .ok (.istore 6, 2) := by decide +kernel
theorem dX10_year_225 : decode cX10_year 225 = .ok (.aload_n 0, 1) := by decide +kernel
theorem dX10_year_226 : decode cX10_year 226 = .ok (.iload_n 3, 1) := by decide +kernel
theorem dX10_year_227 : decode cX10_year 227 = .ok (.ifCond .ne 8, 3) := by decide +kernel
theorem dX10_year_230 : decode cX10_year 230 = .ok (.iload 5, 2) := by decide +kernel
theorem dX10_year_232 : decode cX10_year 232 = .ok (.goto 17, 3) := by decide +kernel
theorem dX10_year_235 : decode cX10_year 235 = .ok (.iload_n 3, 1) := by decide +kernel
theorem dX10_year_236 : decode cX10_year 236 = .ok (.iconst 1, 1) := by decide +kernel
theorem dX10_year_237 : decode cX10_year 237 = .ok (.if_icmp .ne 8, 3) := by decide +kernel
theorem dX10_year_240 : decode cX10_year 240 = .ok (.iload 6, 2) := by decide +kernel
theorem dX10_year_242 : decode cX10_year 242 = .ok (.goto 7, 3) := by decide +kernel
theorem dX10_year_245 : decode cX10_year 245 = .ok (.aload_n 0, 1) := by decide +kernel
theorem dX10_year_246 : decode cX10_year 246 = .ok (.getfield 158, 3) := by decide +kernel
theorem dX10_year_249 : decode cX10_year 249 = .ok (.invokevirtual 202, 3) := by decide +kernel
theorem dX10_year_252 : decode cX10_year 252 = .ok (.ireturn, 1) := by decide +kernel
theorem dX10_pass_0 : decode cX10_pass 0 = .ok (.aload_n 0, 1) := by decide +kernel
theorem dX10_pass_1 : decode cX10_pass 1 = .ok (.getfield 297, 3) := by decide +kernel
theorem dX10_pass_4 : decode cX10_pass 4 = .ok (.ifCond .eq 7, 3) := by decide +kernel
theorem dX10_pass_7 : decode cX10_pass 7 = .ok (.iload_n 1, 1) := by decide +kernel
theorem dX10_pass_8 : decode cX10_pass 8 = .ok (.goto 12, 3) := by decide +kernel
theorem dX10_pass_11 : decode cX10_pass 11 = .ok (.aload_n 0, 1) := by decide +kernel
theorem dX10_pass_12 : decode cX10_pass 12 = .ok (.getfield 78, 3) := by decide +kernel
theorem dX10_pass_15 : decode cX10_pass 15 = .ok (.aload_n 0, 1) := by decide +kernel
theorem dX10_pass_16 : decode cX10_pass 16 = .ok (.getfield 301, 3) := by decide +kernel
theorem dX10_pass_19 : decode cX10_pass 19 = .ok (.iaload, 1) := by decide +kernel
theorem dX10_pass_20 : decode cX10_pass 20 = .ok (.istore_n 2, 1) := by decide +kernel
theorem dX10_pass_21 : decode cX10_pass 21 = .ok (.aload_n 0, 1) := by decide +kernel
theorem dX10_pass_22 : decode cX10_pass 22 = .ok (.getfield 78, 3) := by decide +kernel
theorem dX10_pass_25 : decode cX10_pass 25 = .ok (.aload_n 0, 1) := by decide +kernel
theorem dX10_pass_26 : decode cX10_pass 26 = .ok (.getfield 301, 3) := by decide +kernel
theorem dX10_pass_29 : decode cX10_pass 29 = .ok (.iload_n 2, 1) := by decide +kernel
theorem dX10_pass_30 : decode cX10_pass 30 = .ok (.iastore, 1) := by decide +kernel
theorem dX10_pass_31 : decode cX10_pass 31 = .ok (.aload_n 0, 1) := by decide +kernel
theorem dX10_pass_32 : decode cX10_pass 32 = .ok (.dup, 1) := by decide +kernel
theorem dX10_pass_33 : decode cX10_pass 33 = .ok (.getfield 301, 3) := by decide +kernel
theorem dX10_pass_36 : decode cX10_pass 36 = .ok (.iconst 1, 1) := by decide +kernel
theorem dX10_pass_37 : decode cX10_pass 37 = .ok (.iadd, 1) := by decide +kernel
theorem dX10_pass_38 : decode cX10_pass 38 = .ok (.putfield 301, 3) := by decide +kernel
theorem dX10_pass_41 : decode cX10_pass 41 = .ok (.iload_n 2, 1) := by decide +kernel
theorem dX10_pass_42 : decode cX10_pass 42 = .ok (.ireturn, 1) := by decide +kernel
theorem dX10_passAll_0 : decode cX10_passAll 0 = .ok (.aload_n 0, 1) := by decide +kernel
theorem dX10_passAll_1 : decode cX10_passAll 1 = .ok (.aload_n 0, 1) := by decide +kernel
theorem dX10_passAll_2 : decode cX10_passAll 2 = .ok (.aload_n 0, 1) := by decide +kernel
theorem dX10_passAll_3 : decode cX10_passAll 3 = .ok (.getfield 98, 3) := by decide +kernel
theorem dX10_passAll_6 : decode cX10_passAll 6 = .ok (.invokevirtual 304, 3) := by decide +kernel
theorem dX10_passAll_9 : decode cX10_passAll 9 = .ok (.putfield 98, 3) := by decide +kernel
theorem dX10_passAll_12 : decode cX10_passAll 12 = .ok (.aload_n 0, 1) := by decide +kernel
theorem dX10_passAll_13 : decode cX10_passAll 13 = .ok (.aload_n 0, 1) := by decide +kernel
theorem dX10_passAll_14 : decode cX10_passAll 14 = .ok (.aload_n 0, 1) := by decide +kernel
theorem dX10_passAll_15 : decode cX10_passAll 15 = .ok (.getfield 117, 3) := by decide +kernel
theorem dX10_passAll_18 : decode cX10_passAll 18 = .ok (.invokevirtual 304, 3) := by decide +kernel
theorem dX10_passAll_21 : decode cX10_passAll 21 = .ok (.putfield 117, 3) := by decide +kernel
theorem dX10_passAll_24 : decode cX10_passAll 24 = .ok (.aload_n 0, 1) := by decide +kernel
theorem dX10_passAll_25 : decode cX10_passAll 25 = .ok (.aload_n 0, 1) := by decide +kernel
theorem dX10_passAll_26 : decode cX10_passAll 26 = .ok (.aload_n 0, 1) := by decide +kernel
theorem dX10_passAll_27 : decode cX10_passAll 27 = .ok (.getfield 85, 3) := by decide +kernel
theorem dX10_passAll_30 : decode cX10_passAll 30 = .ok (.invokevirtual 304, 3) := by decide +kernel
theorem dX10_passAll_33 : decode cX10_passAll 33 = .ok (.putfield 85, 3) := by decide +kernel
theorem dX10_passAll_36 : decode cX10_passAll 36 = .ok (.aload_n 0, 1) := by decide +kernel
theorem dX10_passAll_37 : decode cX10_passAll 37 = .ok (.aload_n 0, 1) := by decide +kernel
theorem dX10_passAll_38 : decode cX10_passAll 38 = .ok (.aload_n 0, 1) := by decide +kernel
theorem dX10_passAll_39 : decode cX10_passAll 39 = .ok (.getfield 89, 3) := by decide +kernel
theorem dX10_passAll_42 : decode cX10_passAll 42 = .ok (.invokevirtual 304, 3) := by decide +kernel
theorem dX10_passAll_45 : decode cX10_passAll 45 = .ok (.putfield 89, 3) := by decide +kernel
theorem dX10_passAll_48 : decode cX10_passAll 48 = .ok (.aload_n 0, 1) := by decide +kernel
theorem dX10_passAll_49 : decode cX10_passAll 49 = .ok (.aload_n 0, 1) := by decide +kernel
theorem dX10_passAll_50 : decode cX10_passAll 50 = .ok (.aload_n 0, 1) := by decide +kernel
theorem dX10_passAll_51 : decode cX10_passAll 51 = .ok (.getfield 259, 3) := by decide +kernel
theorem dX10_passAll_54 : decode cX10_passAll 54 = .ok (.invokevirtual 304, 3) := by decide +kernel
theorem dX10_passAll_57 : decode cX10_passAll 57 = .ok (.putfield 259, 3) := by decide +kernel
theorem dX10_passAll_60 : decode cX10_passAll 60 = .ok (.iconst 0, 1) := by decide +kernel
theorem dX10_passAll_61 : decode cX10_passAll 61 = .ok (.istore_n 1, 1) := by decide +kernel
theorem dX10_passAll_62 : decode cX10_passAll 62 = .ok (.iload_n 1, 1) := by decide +kernel
theorem dX10_passAll_63 : decode cX10_passAll 63 = .ok (.bipush 6, 2) := by decide +kernel
theorem dX10_passAll_65 : decode cX10_passAll 65 = .ok (.if_icmp .ge 73, 3) := by decide +kernel
theorem dX10_passAll_68 : decode cX10_passAll 68 = .ok (.aload_n 0, 1) := by decide +kernel
theorem dX10_passAll_69 : decode cX10_passAll 69 = .ok (.getfield 7, 3) := by decide +kernel
theorem dX10_passAll_72 : decode cX10_passAll 72 = .ok (.iload_n 1, 1) := by decide +kernel
theorem dX10_passAll_73 : decode cX10_passAll 73 = .ok (.aload_n 0, 1) := by decide +kernel
theorem dX10_passAll_74 : decode cX10_passAll 74 = .ok (.aload_n 0, 1) := by decide +kernel
theorem dX10_passAll_75 : decode cX10_passAll 75 = .ok (.getfield 7, 3) := by decide +kernel
theorem dX10_passAll_78 : decode cX10_passAll 78 = .ok (.iload_n 1, 1) := by decide +kernel
theorem dX10_passAll_79 : decode cX10_passAll 79 = .ok (.iaload, 1) := by decide +kernel
theorem dX10_passAll_80 : decode cX10_passAll 80 = .ok (.invokevirtual 304, 3) := by decide +kernel
theorem dX10_passAll_83 : decode cX10_passAll 83 = .ok (.iastore, 1) := by decide +kernel
theorem dX10_passAll_84 : decode cX10_passAll 84 = .ok (.aload_n 0, 1) := by decide +kernel
theorem dX10_passAll_85 : decode cX10_passAll 85 = .ok (.getfield 13, 3) := by decide +kernel
theorem dX10_passAll_88 : decode cX10_passAll 88 = .ok (.iload_n 1, 1) := by decide +kernel
theorem dX10_passAll_89 : decode cX10_passAll 89 = .ok (.aload_n 0, 1) := by decide +kernel
theorem dX10_passAll_90 : decode cX10_passAll 90 = .ok (.aload_n 0, 1) := by decide +kernel
theorem dX10_passAll_91 : decode cX10_passAll 91 = .ok (.getfield 13, 3) := by decide +kernel
theorem dX10_passAll_94 : decode cX10_passAll 94 = .ok (.iload_n 1, 1) := by decide +kernel
theorem dX10_passAll_95 : decode cX10_passAll 95 = .ok (.iaload, 1) := by decide +kernel
theorem dX10_passAll_96 : decode cX10_passAll 96 = .ok (.invokevirtual 304, 3) := by decide +kernel
theorem dX10_passAll_99 : decode cX10_passAll 99 = .ok (.iastore, 1) := by decide +kernel
theorem dX10_passAll_100 : decode cX10_passAll 100 = .ok (.aload_n 0, 1) := by decide +kernel
theorem dX10_passAll_101 : decode cX10_passAll 101 = .ok (.getfield 16, 3) := by decide +kernel
theorem dX10_passAll_104 : decode cX10_passAll 104 = .ok (.iload_n 1, 1) := by decide +kernel
theorem dX10_passAll_105 : decode cX10_passAll 105 = .ok (.aload_n 0, 1) := by decide +kernel
theorem dX10_passAll_106 : decode cX10_passAll 106 = .ok (.aload_n 0, 1) := by decide +kernel
theorem dX10_passAll_107 : decode cX10_passAll 107 = .ok (.getfield 16, 3) := by decide +kernel
theorem dX10_passAll_110 : decode cX10_passAll 110 = .ok (.iload_n 1, 1) := by decide +kernel
theorem dX10_passAll_111 : decode cX10_passAll 111 = .ok (.iaload, 1) := by decide +kernel
theorem dX10_passAll_112 : decode cX10_passAll 112 = .ok (.invokevirtual 304, 3) := by decide +kernel
theorem dX10_passAll_115 : decode cX10_passAll 115 = .ok (.iastore, 1) := by decide +kernel
theorem dX10_passAll_116 : decode cX10_passAll 116 = .ok (.aload_n 0, 1) := by decide +kernel
theorem dX10_passAll_117 : decode cX10_passAll 117 = .ok (.getfield 19, 3) := by decide +kernel
theorem dX10_passAll_120 : decode cX10_passAll 120 = .ok (.iload_n 1, 1) := by decide +kernel
theorem dX10_passAll_121 : decode cX10_passAll 121 = .ok (.aload_n 0, 1) := by decide +kernel
theorem dX10_passAll_122 : decode cX10_passAll 122 = .ok (.aload_n 0, 1) := by decide +kernel
theorem dX10_passAll_123 : decode cX10_passAll 123 = .ok (.getfield 19, 3) := by decide +kernel
theorem dX10_passAll_126 : decode cX10_passAll 126 = .ok (.iload_n 1, 1) := by decide +kernel
theorem dX10_passAll_127 : decode cX10_passAll 127 = .ok (.iaload, 1) := by decide +kernel
theorem dX10_passAll_128 : decode cX10_passAll 128 = .ok (.invokevirtual 304, 3) := by decide +kernel
theorem dX10_passAll_131 : decode cX10_passAll 131 = .ok (.iastore, 1) := by decide +kernel
theorem dX10_passAll_132 : decode cX10_passAll 132 = .ok (.iinc 1 1, 3) := by decide +kernel
theorem dX10_passAll_135 : decode cX10_passAll 135 = .ok (.goto (-73), 3) := by decide +kernel
theorem dX10_passAll_138 : decode cX10_passAll 138 = .ok (.iconst 0, 1) := by decide +kernel
theorem dX10_passAll_139 : decode cX10_passAll 139 = .ok (.istore_n 1, 1) := by decide +kernel
theorem dX10_passAll_140 : decode cX10_passAll 140 = .ok (.iload_n 1, 1) := by decide +kernel
theorem dX10_passAll_141 : decode cX10_passAll 141 = .ok (.bipush 8, 2) := by decide +kernel
theorem dX10_passAll_143 : decode cX10_passAll 143 = .ok (.if_icmp .ge 41, 3) := by decide +kernel
theorem dX10_passAll_146 : decode cX10_passAll 146 = .ok (.aload_n 0, 1) := by decide +kernel
theorem dX10_passAll_147 : decode cX10_passAll 147 = .ok (.getfield 22, 3) := by decide +kernel
theorem dX10_passAll_150 : decode cX10_passAll 150 = .ok (.iload_n 1, 1) := by decide +kernel
theorem dX10_passAll_151 : decode cX10_passAll 151 = .ok (.aload_n 0, 1) := by decide +kernel
theorem dX10_passAll_152 : decode cX10_passAll 152 = .ok (.aload_n 0, 1) := by decide +kernel
theorem dX10_passAll_153 : decode cX10_passAll 153 = .ok (.getfield 22, 3) := by decide +kernel
theorem dX10_passAll_156 : decode cX10_passAll 156 = .ok (.iload_n 1, 1) := by decide +kernel
theorem dX10_passAll_157 : decode cX10_passAll 157 = .ok (.iaload, 1) := by decide +kernel
theorem dX10_passAll_158 : decode cX10_passAll 158 = .ok (.invokevirtual 304, 3) := by decide +kernel
theorem dX10_passAll_161 : decode cX10_passAll 161 = .ok (.iastore, 1) := by decide +kernel
theorem dX10_passAll_162 : decode cX10_passAll 162 = .ok (.aload_n 0, 1) := by decide +kernel
theorem dX10_passAll_163 : decode cX10_passAll 163 = .ok (.getfield 25, 3) := by decide +kernel
theorem dX10_passAll_166 : decode cX10_passAll 166 = .ok (.iload_n 1, 1) := by decide +kernel
theorem dX10_passAll_167 : decode cX10_passAll 167 = .ok (.aload_n 0, 1) := by decide +kernel
theorem dX10_passAll_168 : decode cX10_passAll 168 = .ok (.aload_n 0, 1) := by decide +kernel
theorem dX10_passAll_169 : decode cX10_passAll 169 = .ok (.getfield 25, 3) := by decide +kernel
theorem dX10_passAll_172 : decode cX10_passAll 172 = .ok (.iload_n 1, 1) := by decide +kernel
theorem dX10_passAll_173 : decode cX10_passAll 173 = .ok (.iaload, 1) := by decide +kernel
theorem dX10_passAll_174 : decode cX10_passAll 174 = .ok (.invokevirtual 304, 3) := by decide +kernel
theorem dX10_passAll_177 : decode cX10_passAll 177 = .ok (.iastore, 1) := by decide +kernel
theorem dX10_passAll_178 : decode cX10_passAll 178 = .ok (.iinc 1 1, 3) := by decide +kernel
theorem dX10_passAll_181 : decode cX10_passAll 181 = .ok (.goto (-41), 3) := by decide +kernel
theorem dX10_passAll_184 : decode cX10_passAll 184 = .ok (.return_, 1) := by decide +kernel
theorem dX10_image_0 : decode cX10_image 0 = .ok (.iload_n 1, 1) := by decide +kernel
theorem dX10_image_1 : decode cX10_image 1 = .ok (.i2l, 1) := by decide +kernel
theorem dX10_image_2 : decode cX10_image 2 = .ok (.lconst 0, 1) := by decide +kernel
theorem dX10_image_3 : decode cX10_image 3 = .ok (.lconst 1, 1) := by decide +kernel
theorem dX10_image_4 : decode cX10_image 4 = .ok (.invokestatic 94, 3) := by decide +kernel
theorem dX10_image_7 : decode cX10_image 7 = .ok (.ifCond .ne 6, 3) := by decide +kernel
theorem dX10_image_10 : decode cX10_image 10 = .ok (.bipush (-2), 2) := by decide +kernel
theorem dX10_image_12 : decode cX10_image 12 = .ok (.ireturn, 1) := by decide +kernel
theorem dX10_image_13 : decode cX10_image 13 = .ok (.aload_n 0, 1) := by decide +kernel
theorem dX10_image_14 : decode cX10_image 14 = .ok (.bipush 60, 2) := by decide +kernel
theorem dX10_image_16 : decode cX10_image 16 = .ok (.iload_n 1, 1) := by decide +kernel
theorem dX10_image_17 : decode cX10_image 17 = .ok (.imul, 1) := by decide +kernel
theorem dX10_image_18 : decode cX10_image 18 = .ok (.putfield 301, 3) := by decide +kernel
theorem dX10_image_21 : decode cX10_image 21 = .ok (.aload_n 0, 1) := by decide +kernel
theorem dX10_image_22 : decode cX10_image 22 = .ok (.iconst 1, 1) := by decide +kernel
theorem dX10_image_23 : decode cX10_image 23 = .ok (.putfield 297, 3) := by decide +kernel
theorem dX10_image_26 : decode cX10_image 26 = .ok (.aload_n 0, 1) := by decide +kernel
theorem dX10_image_27 : decode cX10_image 27 = .ok (.invokevirtual 307, 3) := by decide +kernel
theorem dX10_image_30 : decode cX10_image 30 = .ok (.aload_n 0, 1) := by decide +kernel
theorem dX10_image_31 : decode cX10_image 31 = .ok (.getfield 81, 3) := by decide +kernel
theorem dX10_image_34 : decode cX10_image 34 = .ok (.iload_n 1, 1) := by decide +kernel
theorem dX10_image_35 : decode cX10_image 35 = .ok (.iconst 1, 1) := by decide +kernel
theorem dX10_image_36 : decode cX10_image 36 = .ok (.bastore, 1) := by decide +kernel
theorem dX10_image_37 : decode cX10_image 37 = .ok (.iconst 1, 1) := by decide +kernel
theorem dX10_image_38 : decode cX10_image 38 = .ok (.ireturn, 1) := by decide +kernel
theorem dX10_restore_0 : decode cX10_restore 0 = .ok (.iload_n 1, 1) := by decide +kernel
theorem dX10_restore_1 : decode cX10_restore 1 = .ok (.i2l, 1) := by decide +kernel
theorem dX10_restore_2 : decode cX10_restore 2 = .ok (.lconst 0, 1) := by decide +kernel
theorem dX10_restore_3 : decode cX10_restore 3 = .ok (.lconst 1, 1) := by decide +kernel
theorem dX10_restore_4 : decode cX10_restore 4 = .ok (.invokestatic 94, 3) := by decide +kernel
theorem dX10_restore_7 : decode cX10_restore 7 = .ok (.ifCond .ne 6, 3) := by decide +kernel
theorem dX10_restore_10 : decode cX10_restore 10 = .ok (.bipush (-2), 2) := by decide +kernel
theorem dX10_restore_12 : decode cX10_restore 12 = .ok (.ireturn, 1) := by decide +kernel
theorem dX10_restore_13 : decode cX10_restore 13 = .ok (.aload_n 0, 1) := by decide +kernel
theorem dX10_restore_14 : decode cX10_restore 14 = .ok (.getfield 81, 3) := by decide +kernel
theorem dX10_restore_17 : decode cX10_restore 17 = .ok (.iload_n 1, 1) := by decide +kernel
theorem dX10_restore_18 : decode cX10_restore 18 = .ok (.baload, 1) := by decide +kernel
theorem dX10_restore_19 : decode cX10_restore 19 = .ok (.ifCond .ne 6, 3) := by decide +kernel
theorem dX10_restore_22 : decode cX10_restore 22 = .ok (.bipush (-3), 2) := by decide +kernel
theorem dX10_restore_24 : decode cX10_restore 24 = .ok (.ireturn, 1) := by decide +kernel
theorem dX10_restore_25 : decode cX10_restore 25 = .ok (.aload_n 0, 1) := by decide +kernel
theorem dX10_restore_26 : decode cX10_restore 26 = .ok (.bipush 60, 2) := by decide +kernel
theorem dX10_restore_28 : decode cX10_restore 28 = .ok (.iload_n 1, 1) := by decide +kernel
theorem dX10_restore_29 : decode cX10_restore 29 = .ok (.imul, 1) := by decide +kernel
theorem dX10_restore_30 : decode cX10_restore 30 = .ok (.putfield 301, 3) := by decide +kernel
theorem dX10_restore_33 : decode cX10_restore 33 = .ok (.aload_n 0, 1) := by decide +kernel
theorem dX10_restore_34 : decode cX10_restore 34 = .ok (.iconst 0, 1) := by decide +kernel
theorem dX10_restore_35 : decode cX10_restore 35 = .ok (.putfield 297, 3) := by decide +kernel
theorem dX10_restore_38 : decode cX10_restore 38 = .ok (.aload_n 0, 1) := by decide +kernel
theorem dX10_restore_39 : decode cX10_restore 39 = .ok (.invokevirtual 307, 3) := by decide +kernel
theorem dX10_restore_42 : decode cX10_restore 42 = .ok (.iconst 1, 1) := by decide +kernel
theorem dX10_restore_43 : decode cX10_restore 43 = .ok (.ireturn, 1) := by decide +kernel
theorem dX10_toldOf_0 : decode cX10_toldOf 0 = .ok (.aload_n 0, 1) := by decide +kernel
theorem dX10_toldOf_1 : decode cX10_toldOf 1 = .ok (.iload_n 1, 1) := by decide +kernel
theorem dX10_toldOf_2 : decode cX10_toldOf 2 = .ok (.invokevirtual 109, 3) := by decide +kernel
theorem dX10_toldOf_5 : decode cX10_toldOf 5 = .ok (.ifCond .ne 6, 3) := by decide +kernel
theorem dX10_toldOf_8 : decode cX10_toldOf 8 = .ok (.bipush (-2), 2) := by decide +kernel
theorem dX10_toldOf_10 : decode cX10_toldOf 10 = .ok (.ireturn, 1) := by decide +kernel
theorem dX10_toldOf_11 : decode cX10_toldOf 11 = .ok (.iload_n 2, 1) := by decide +kernel
theorem dX10_toldOf_12 : decode cX10_toldOf 12 = .ok (.ifCond .ne 12, 3) := by decide +kernel
theorem dX10_toldOf_15 : decode cX10_toldOf 15 = .ok (.aload_n 0, 1) := by decide +kernel
theorem dX10_toldOf_16 : decode cX10_toldOf 16 = .ok (.getfield 7, 3) := by decide +kernel
theorem dX10_toldOf_19 : decode cX10_toldOf 19 = .ok (.iload_n 1, 1) := by decide +kernel
theorem dX10_toldOf_20 : decode cX10_toldOf 20 = .ok (.iaload, 1) := by decide +kernel
theorem dX10_toldOf_21 : decode cX10_toldOf 21 = .ok (.goto 47, 3) := by decide +kernel
theorem dX10_toldOf_24 : decode cX10_toldOf 24 = .ok (.iload_n 2, 1) := by decide +kernel
theorem dX10_toldOf_25 : decode cX10_toldOf 25 = .ok (.iconst 1, 1) := by decide +kernel
theorem dX10_toldOf_26 : decode cX10_toldOf 26 = .ok (.if_icmp .ne 12, 3) := by decide +kernel
theorem dX10_toldOf_29 : decode cX10_toldOf 29 = .ok (.aload_n 0, 1) := by decide +kernel
theorem dX10_toldOf_30 : decode cX10_toldOf 30 = .ok (.getfield 13, 3) := by decide +kernel
theorem dX10_toldOf_33 : decode cX10_toldOf 33 = .ok (.iload_n 1, 1) := by decide +kernel
theorem dX10_toldOf_34 : decode cX10_toldOf 34 = .ok (.iaload, 1) := by decide +kernel
theorem dX10_toldOf_35 : decode cX10_toldOf 35 = .ok (.goto 33, 3) := by decide +kernel
theorem dX10_toldOf_38 : decode cX10_toldOf 38 = .ok (.iload_n 2, 1) := by decide +kernel
theorem dX10_toldOf_39 : decode cX10_toldOf 39 = .ok (.iconst 2, 1) := by decide +kernel
theorem dX10_toldOf_40 : decode cX10_toldOf 40 = .ok (.if_icmp .ne 12, 3) := by decide +kernel
theorem dX10_toldOf_43 : decode cX10_toldOf 43 = .ok (.aload_n 0, 1) := by decide +kernel
theorem dX10_toldOf_44 : decode cX10_toldOf 44 = .ok (.getfield 16, 3) := by decide +kernel
theorem dX10_toldOf_47 : decode cX10_toldOf 47 = .ok (.iload_n 1, 1) := by decide +kernel
theorem dX10_toldOf_48 : decode cX10_toldOf 48 = .ok (.iaload, 1) := by decide +kernel
theorem dX10_toldOf_49 : decode cX10_toldOf 49 = .ok (.goto 19, 3) := by decide +kernel
theorem dX10_toldOf_52 : decode cX10_toldOf 52 = .ok (.iload_n 2, 1) := by decide +kernel
theorem dX10_toldOf_53 : decode cX10_toldOf 53 = .ok (.iconst 3, 1) := by decide +kernel
theorem dX10_toldOf_54 : decode cX10_toldOf 54 = .ok (.if_icmp .ne 12, 3) := by decide +kernel
theorem dX10_toldOf_57 : decode cX10_toldOf 57 = .ok (.aload_n 0, 1) := by decide +kernel
theorem dX10_toldOf_58 : decode cX10_toldOf 58 = .ok (.getfield 19, 3) := by decide +kernel
theorem dX10_toldOf_61 : decode cX10_toldOf 61 = .ok (.iload_n 1, 1) := by decide +kernel
theorem dX10_toldOf_62 : decode cX10_toldOf 62 = .ok (.iaload, 1) := by decide +kernel
theorem dX10_toldOf_63 : decode cX10_toldOf 63 = .ok (.goto 5, 3) := by decide +kernel
theorem dX10_toldOf_66 : decode cX10_toldOf 66 = .ok (.bipush (-2), 2) := by decide +kernel
theorem dX10_toldOf_68 : decode cX10_toldOf 68 = .ok (.ireturn, 1) := by decide +kernel
theorem dX10_told_0 : decode cX10_told 0 = .ok (.iload_n 1, 1) := by decide +kernel
theorem dX10_told_1 : decode cX10_told 1 = .ok (.i2l, 1) := by decide +kernel
theorem dX10_told_2 : decode cX10_told 2 = .ok (.ldc2_w 274, 3) := by decide +kernel
theorem dX10_told_5 : decode cX10_told 5 = .ok (.ldc2_w 310, 3) := by decide +kernel
theorem dX10_told_8 : decode cX10_told 8 = .ok (.invokestatic 94, 3) := by decide +kernel
theorem dX10_told_11 : decode cX10_told 11 = .ok (.ifCond .eq 18, 3) := by decide +kernel
theorem dX10_told_14 : decode cX10_told 14 = .ok (.aload_n 0, 1) := by decide +kernel
theorem dX10_told_15 : decode cX10_told 15 = .ok (.iload_n 1, 1) := by decide +kernel
theorem dX10_told_16 : decode cX10_told 16 = .ok (.bipush 10, 2) := by decide +kernel
theorem dX10_told_18 : decode cX10_told 18 = .ok (.idiv, 1) := by decide +kernel
theorem dX10_told_19 : decode cX10_told 19 = .ok (.iconst 1, 1) := by decide +kernel
theorem dX10_told_20 : decode cX10_told 20 = .ok (.isub, 1) := by decide +kernel
theorem dX10_told_21 : decode cX10_told 21 = .ok (.iload_n 1, 1) := by decide +kernel
theorem dX10_told_22 : decode cX10_told 22 = .ok (.bipush 10, 2) := by decide +kernel
theorem dX10_told_24 : decode cX10_told 24 = .ok (.irem, 1) := by decide +kernel
theorem dX10_told_25 : decode cX10_told 25 = .ok (.invokevirtual 312, 3) := by decide +kernel
theorem dX10_told_28 : decode cX10_told 28 = .ok (.ireturn, 1) := by decide +kernel
theorem dX10_told_29 : decode cX10_told 29 = .ok (.iload_n 1, 1) := by decide +kernel
theorem dX10_told_30 : decode cX10_told 30 = .ok (.tableswitch 68 0 5 #[38, 43, 48, 53, 58, 63], 38) := by decide +kernel
theorem dX10_told_68 : decode cX10_told 68 = .ok (.aload_n 0, 1) := by decide +kernel
theorem dX10_told_69 : decode cX10_told 69 = .ok (.getfield 124, 3) := by decide +kernel
theorem dX10_told_72 : decode cX10_told 72 = .ok (.ireturn, 1) := by decide +kernel
theorem dX10_told_73 : decode cX10_told 73 = .ok (.aload_n 0, 1) := by decide +kernel
theorem dX10_told_74 : decode cX10_told 74 = .ok (.getfield 98, 3) := by decide +kernel
theorem dX10_told_77 : decode cX10_told 77 = .ok (.ireturn, 1) := by decide +kernel
theorem dX10_told_78 : decode cX10_told 78 = .ok (.aload_n 0, 1) := by decide +kernel
theorem dX10_told_79 : decode cX10_told 79 = .ok (.getfield 117, 3) := by decide +kernel
theorem dX10_told_82 : decode cX10_told 82 = .ok (.ireturn, 1) := by decide +kernel
theorem dX10_told_83 : decode cX10_told 83 = .ok (.aload_n 0, 1) := by decide +kernel
theorem dX10_told_84 : decode cX10_told 84 = .ok (.getfield 85, 3) := by decide +kernel
theorem dX10_told_87 : decode cX10_told 87 = .ok (.ireturn, 1) := by decide +kernel
theorem dX10_told_88 : decode cX10_told 88 = .ok (.aload_n 0, 1) := by decide +kernel
theorem dX10_told_89 : decode cX10_told 89 = .ok (.getfield 89, 3) := by decide +kernel
theorem dX10_told_92 : decode cX10_told 92 = .ok (.ireturn, 1) := by decide +kernel
theorem dX10_told_93 : decode cX10_told 93 = .ok (.aload_n 0, 1) := by decide +kernel
theorem dX10_told_94 : decode cX10_told 94 = .ok (.getfield 259, 3) := by decide +kernel
theorem dX10_told_97 : decode cX10_told 97 = .ok (.ireturn, 1) := by decide +kernel
theorem dX10_told_98 : decode cX10_told 98 = .ok (.bipush (-2), 2) := by decide +kernel
theorem dX10_told_100 : decode cX10_told 100 = .ok (.ireturn, 1) := by decide +kernel
theorem b_X10_seen_0 {l : Launch} {z d : Nat} {X : jX} {M : Nat → Int → Int} {Q : Option jV → jM → Prop} {x1 : Int} {x2 : Int}  (s1 : hasB (M 96 0) x1 = true → 0 ≤ x2 ∧ x2 ≤ 99 → (M 96 10) ≠ 8 → 0 ≤ (M 96 10)) (s2 : hasB (M 96 0) x1 = true → 0 ≤ x2 ∧ x2 ≤ 99 → (M 96 10) ≠ 8 → (M 96 10) < 8) (s3 : hasB (M 96 0) x1 = true → 0 ≤ x2 ∧ x2 ≤ 99 → (M 96 10) ≠ 8 → 0 ≤ ((jupd M 101 (M 96 10) x1) 96 10)) (s4 : hasB (M 96 0) x1 = true → 0 ≤ x2 ∧ x2 ≤ 99 → (M 96 10) ≠ 8 → ((jupd M 101 (M 96 10) x1) 96 10) < 8) (s5 : hasB (M 96 0) x1 = true → 0 ≤ x2 ∧ x2 ≤ 99 → (M 96 10) ≠ 8 → jIn (((jupd (jupd M 101 (M 96 10) x1) 102 ((jupd M 101 (M 96 10) x1) 96 10) x2) 96 10) + 1)) (k1 : hasB (M 96 0) x1 = true → 0 ≤ x2 ∧ x2 ≤ 99 → (M 96 10) ≠ 8 → Q (some (jI ((jupd (jupd (jupd M 101 (M 96 10) x1) 102 ((jupd M 101 (M 96 10) x1) 96 10) x2) 96 10 (((jupd (jupd M 101 (M 96 10) x1) 102 ((jupd M 101 (M 96 10) x1) 96 10) x2) 96 10) + 1)) 96 10))) (jG, (jupd (jupd (jupd M 101 (M 96 10) x1) 102 ((jupd M 101 (M 96 10) x1) 96 10) x2) 96 10 (((jupd (jupd M 101 (M 96 10) x1) 102 ((jupd M 101 (M 96 10) x1) 96 10) x2) 96 10) + 1)))) (k2 : hasB (M 96 0) x1 = true → 0 ≤ x2 ∧ x2 ≤ 99 → (M 96 10) = 8 → Q (some (jI (-4))) (jG, M)) (k3 : hasB (M 96 0) x1 = true → ¬ (0 ≤ x2 ∧ x2 ≤ 99) → Q (some (jI (-2))) (jG, M)) (k4 : hasB (M 96 0) x1 = false → Q (some (jI (-1))) (jG, M)) : J l z X (d + 2) mX10_seen (0, 0) 0 [jR 96, jI x1, jI x2] [] (jG, M) Q :=
  (J_aload_n dX10_seen_0 rfl (J_iload_n dX10_seen_1 rfl (J_callV (a1 := (0, 0)) (a2 := (0, 0)) (mm' := mX10_isOne) (S := []) [jI x1] md_X10_isOne im_X10_isOne se_X10_isOne dX10_seen_2 wm_X10_109 jcl_X10.1 rfl g_96 rfl rfl (Nat.le_of_ble_eq_true rfl) (Nat.le_of_ble_eq_true rfl) rfl (c_X10_isOne   (fun c1 => (J_if_ne dX10_seen_5 (tgt := 10) (by decide) (fun _ => (J_iload_n dX10_seen_10 rfl (J_i2l dX10_seen_11 (J_lconst dX10_seen_12 jlc_0 jlv_0 (J_ldc2 dX10_seen_13 (lw_X10_101) lcl_X10_101 rfl (J_callS (a1 := (0, 0)) (a2 := (0, 0)) (mm' := mX10_in) (S := []) [jL x2, jL 0, jL 99] md_X10_in is_X10_in dX10_seen_16 wm_X10_94 rfl rfl (Nat.le_of_ble_eq_true rfl) (Nat.le_of_ble_eq_true rfl) rfl (c_X10_in   (fun c2 => (J_if_ne dX10_seen_19 (tgt := 25) (by decide) (fun _ => (J_aload_n dX10_seen_25 rfl (J_getI (k := 10) (kz := 10) jcl_X10 dX10_seen_26 wf_X10_259 g_96 (Nat.le_of_ble_eq_true rfl) rfl rfl (J_bipush dX10_seen_29 jc_8 jb_8 (J_icmp_ne dX10_seen_31 (tgt := 37) (by decide) (fun c3 => (J_aload_n dX10_seen_37 rfl (J_getR (k := 8) jcl_X10 dX10_seen_38 wf_X10_22 g_96 (Nat.le_of_ble_eq_true rfl) rfl rfl (J_aload_n dX10_seen_41 rfl (J_getI (k := 10) (kz := 10) jcl_X10 dX10_seen_42 wf_X10_259 g_96 (Nat.le_of_ble_eq_true rfl) rfl rfl (J_iload_n dX10_seen_45 rfl (J_iast dX10_seen_46 g_101 (s1 c1 c2 c3) (s2 c1 c2 c3) (J_aload_n dX10_seen_47 rfl (J_getR (k := 9) jcl_X10 dX10_seen_48 wf_X10_25 g_96 (Nat.le_of_ble_eq_true rfl) rfl rfl (J_aload_n dX10_seen_51 rfl (J_getI (k := 10) (kz := 10) jcl_X10 dX10_seen_52 wf_X10_259 g_96 (Nat.le_of_ble_eq_true rfl) rfl rfl (J_iload_n dX10_seen_55 rfl (J_iast dX10_seen_56 g_102 (s3 c1 c2 c3) (s4 c1 c2 c3) (J_aload_n dX10_seen_57 rfl (J_dupR dX10_seen_58 (J_getI (k := 10) (kz := 10) jcl_X10 dX10_seen_59 wf_X10_259 g_96 (Nat.le_of_ble_eq_true rfl) rfl rfl (J_iconst dX10_seen_62 jc_1 (J_iadd dX10_seen_63 (s5 c1 c2 c3) (J_putI (k := 10) (kz := 10) jcl_X10 dX10_seen_64 wf_X10_259 g_96 (Nat.le_of_ble_eq_true rfl) rfl rfl rfl (J_aload_n dX10_seen_67 rfl (J_getI (k := 10) (kz := 10) jcl_X10 dX10_seen_68 wf_X10_259 g_96 (Nat.le_of_ble_eq_true rfl) rfl rfl (J_iret dX10_seen_71 rfl (k1 c1 c2 c3))))))))))))))))))))))) (fun c3 => (J_bipush dX10_seen_34 jc_m4 jb_m4 (J_iret dX10_seen_36 rfl (k2 c1 c2 c3))))))))) (fun c => absurd c (by decide)))) (fun c2 => (J_if_ne dX10_seen_19 (tgt := 25) (by decide) (fun c => absurd c (by decide)) (fun _ => (J_bipush dX10_seen_22 jc_m2 jb_m2 (J_iret dX10_seen_24 rfl (k3 c1 c2))))))))))))) (fun c => absurd c (by decide)))) (fun c1 => (J_if_ne dX10_seen_5 (tgt := 10) (by decide) (fun c => absurd c (by decide)) (fun _ => (J_iconst dX10_seen_8 jc_m1 (J_iret dX10_seen_9 rfl (k4 c1))))))))))
theorem b_X10_forget_0 {l : Launch} {z d : Nat} {X : jX} {M : Nat → Int → Int} {Q : Option jV → jM → Prop}    (k1 : Q (some (jI (M 96 10))) (jG, (jupd M 96 10 0))) : J l z X d mX10_forget (0, 0) 0 [jR 96, jN] [] (jG, M) Q :=
  (J_aload_n dX10_forget_0 rfl (J_getI (k := 10) (kz := 10) jcl_X10 dX10_forget_1 wf_X10_259 g_96 (Nat.le_of_ble_eq_true rfl) rfl rfl (J_istore_n dX10_forget_4 (Nat.le_of_ble_eq_true rfl) (J_aload_n dX10_forget_5 rfl (J_iconst dX10_forget_6 jc_0 (J_putI (k := 10) (kz := 10) jcl_X10 dX10_forget_7 wf_X10_259 g_96 (Nat.le_of_ble_eq_true rfl) rfl rfl rfl (J_iload_n dX10_forget_10 rfl (J_iret dX10_forget_11 rfl k1))))))))
theorem b_X10_lookedBy_0 {l : Launch} {z d : Nat} {X : jX} {M : Nat → Int → Int} {Q : Option jV → jM → Prop} {x1 : Int} {x2 : Int}  (s1 : 0 ≤ x2) (s2 : x2 < 6) (k1 : x1 ≠ x2 → J l z X (d + 1) mX10_lookedBy (0, 0) 18 [jR 96, jI x1, jI x2] [jI 2, jI (M 97 x2), jI x2, jR 96] (jG, M) Q) (k2 : x1 = x2 → J l z X (d + 1) mX10_lookedBy (0, 0) 18 [jR 96, jI x1, jI x2] [jI 1, jI (M 97 x2), jI x2, jR 96] (jG, M) Q) : J l z X (d + 1) mX10_lookedBy (0, 0) 0 [jR 96, jI x1, jI x2] [] (jG, M) Q :=
  (J_aload_n dX10_lookedBy_0 rfl (J_iload_n dX10_lookedBy_1 rfl (J_aload_n dX10_lookedBy_2 rfl (J_getR (k := 4) jcl_X10 dX10_lookedBy_3 wf_X10_7 g_96 (Nat.le_of_ble_eq_true rfl) rfl rfl (J_iload_n dX10_lookedBy_6 rfl (J_iald dX10_lookedBy_7 g_97 s1 s2 (J_iload_n dX10_lookedBy_8 rfl (J_iload_n dX10_lookedBy_9 rfl (J_icmp_ne dX10_lookedBy_10 (tgt := 17) (by decide) (fun c1 => (J_iconst dX10_lookedBy_17 jc_2 (k1 c1))) (fun c1 => (J_iconst dX10_lookedBy_13 jc_1 (J_goto dX10_lookedBy_14 (tgt := 18) (by decide) (k2 c1)))))))))))))
theorem b_X10_lookedBy_18 {l : Launch} {z d : Nat} {X : jX} {M : Nat → Int → Int} {Q : Option jV → jM → Prop} {x1 : Int} {x2 : Int} {t1 : Int} {t2 : Int} {t3 : Int}  (s1 : (0 ≤ t1 ∧ t1 < 6) ∧ (-1000 ≤ t2 ∧ t2 ≤ 1000) ∧ (0 ≤ (M 98 t1) ∧ (M 98 t1) ≤ 9)) (k1 : Q (some (jI (agF (M 98 t1) (M 99 t1) t2 t3))) (jG, M)) : J l z X (d + 1) mX10_lookedBy (0, 0) 18 [jR 96, jI x1, jI x2] [jI t3, jI t2, jI t1, jR 96] (jG, M) Q :=
  (J_callV (a1 := (0, 0)) (a2 := (0, 0)) (mm' := mX10_lookBehind) (S := []) [jI t1, jI t2, jI t3] md_X10_lookBehind im_X10_lookBehind se_X10_lookBehind dX10_lookedBy_18 wm_X10_147 jcl_X10.1 rfl g_96 rfl rfl (Nat.le_of_ble_eq_true rfl) (Nat.le_of_ble_eq_true rfl) rfl (c_X10_lookBehind  s1 (J_iret dX10_lookedBy_21 rfl k1)))
theorem b_X10_fits_0 {l : Launch} {z d : Nat} {X : jX} {M : Nat → Int → Int} {Q : Option jV → jM → Prop} {x1 : Int}   (k1 : x1 = 6 → J l z X (d + 2) mX10_fits (0, 0) 14 [jR 96, jI x1, jN, jN, jN] [] (jG, M) Q) (k2 : x1 ≠ 6 → hasB (M 96 0) x1 = true → J l z X (d + 2) mX10_fits (0, 0) 14 [jR 96, jI x1, jN, jN, jN] [] (jG, M) Q) (k3 : x1 ≠ 6 → hasB (M 96 0) x1 = false → J l z X (d + 2) mX10_fits (0, 0) 19 [jR 96, jI x1, jN, jN, jN] [jI 0] (jG, M) Q) : J l z X (d + 2) mX10_fits (0, 0) 0 [jR 96, jI x1, jN, jN, jN] [] (jG, M) Q :=
  (J_iload_n dX10_fits_0 rfl (J_bipush dX10_fits_1 jc_6 jb_6 (J_icmp_eq dX10_fits_3 (tgt := 14) (by decide) (fun c1 => (k1 c1)) (fun c1 => (J_aload_n dX10_fits_6 rfl (J_iload_n dX10_fits_7 rfl (J_callV (a1 := (0, 0)) (a2 := (0, 0)) (mm' := mX10_isOne) (S := []) [jI x1] md_X10_isOne im_X10_isOne se_X10_isOne dX10_fits_8 wm_X10_109 jcl_X10.1 rfl g_96 rfl rfl (Nat.le_of_ble_eq_true rfl) (Nat.le_of_ble_eq_true rfl) rfl (c_X10_isOne   (fun c2 => (J_if_eq dX10_fits_11 (tgt := 18) (by decide) (fun c => absurd c (by decide)) (fun _ => (k2 c1 c2)))) (fun c2 => (J_if_eq dX10_fits_11 (tgt := 18) (by decide) (fun _ => (J_iconst dX10_fits_18 jc_0 (k3 c1 c2))) (fun c => absurd c (by decide))))))))))))
theorem b_X10_fits_14 {l : Launch} {z d : Nat} {X : jX} {M : Nat → Int → Int} {Q : Option jV → jM → Prop} {x1 : Int}   (k1 : J l z X (d + 2) mX10_fits (0, 0) 19 [jR 96, jI x1, jN, jN, jN] [jI 1] (jG, M) Q) : J l z X (d + 2) mX10_fits (0, 0) 14 [jR 96, jI x1, jN, jN, jN] [] (jG, M) Q :=
  (J_iconst dX10_fits_14 jc_1 (J_goto dX10_fits_15 (tgt := 19) (by decide) k1))
theorem b_X10_fits_19 {l : Launch} {z d : Nat} {X : jX} {M : Nat → Int → Int} {Q : Option jV → jM → Prop} {x1 : Int} {t0 : Int}   (k1 : J l z X (d + 2) mX10_fits (0, 0) 22 [jR 96, jI x1, jI t0, jI 0, jN] [] (jG, M) Q) : J l z X (d + 2) mX10_fits (0, 0) 19 [jR 96, jI x1, jN, jN, jN] [jI t0] (jG, M) Q :=
  (J_istore_n dX10_fits_19 (Nat.le_of_ble_eq_true rfl) (J_iconst dX10_fits_20 jc_0 (J_istore_n dX10_fits_21 (Nat.le_of_ble_eq_true rfl) k1)))
theorem b_X10_fits_22 {l : Launch} {z d : Nat} {X : jX} {M : Nat → Int → Int} {Q : Option jV → jM → Prop} {x1 : Int} {x2 : Int} {x3 : Int}  (s1 : (M 96 10) ≤ x3 → x2 = 0 ∨ x2 = 1) (s2 : x3 < (M 96 10) → 0 ≤ x3) (s3 : x3 < (M 96 10) → x3 < 8) (k1 : (M 96 10) ≤ x3 → Q (some (jI x2)) (jG, M)) (k2 : x3 < (M 96 10) → x2 = 0 → J l z X (d + 2) mX10_fits (0, 0) 71 [jR 96, jI x1, jI x2, jI x3, jI (M 101 x3)] [] (jG, M) Q) (k3 : x3 < (M 96 10) → x2 ≠ 0 → hasB (M 96 0) (M 101 x3) = true → J l z X (d + 1) mX10_lookedBy (0, 0) 0 [jR 96, jI x1, jI (M 101 x3)] [] (jG, M) (fun r μ => J l z X (d + 2) mX10_fits (0, 0) 58 [jR 96, jI x1, jI x2, jI x3, jI (M 101 x3)] (r.toList ++ []) μ Q)) (k4 : x3 < (M 96 10) → x2 ≠ 0 → hasB (M 96 0) (M 101 x3) = false → J l z X (d + 2) mX10_fits (0, 0) 71 [jR 96, jI x1, jI x2, jI x3, jI (M 101 x3)] [] (jG, M) Q) : J l z X (d + 2) mX10_fits (0, 0) 22 [jR 96, jI x1, jI x2, jI x3, jN] [] (jG, M) Q :=
  (J_iload_n dX10_fits_22 rfl (J_aload_n dX10_fits_23 rfl (J_getI (k := 10) (kz := 10) jcl_X10 dX10_fits_24 wf_X10_259 g_96 (Nat.le_of_ble_eq_true rfl) rfl rfl (J_icmp_ge dX10_fits_27 (tgt := 79) (by decide) (fun c1 => (J_iload_n dX10_fits_79 rfl (J_zret dX10_fits_80 rfl (s1 c1) (k1 c1)))) (fun c1 => (J_aload_n dX10_fits_30 rfl (J_getR (k := 8) jcl_X10 dX10_fits_31 wf_X10_22 g_96 (Nat.le_of_ble_eq_true rfl) rfl rfl (J_iload_n dX10_fits_34 rfl (J_iald dX10_fits_35 g_101 (s2 c1) (s3 c1) (J_istore dX10_fits_36 (Nat.le_of_ble_eq_true rfl) (J_iload_n dX10_fits_38 rfl (J_if_eq dX10_fits_39 (tgt := 71) (by decide) (fun c2 => (k2 c1 c2)) (fun c2 => (J_aload_n dX10_fits_42 rfl (J_iload dX10_fits_43 rfl (J_callV (a1 := (0, 0)) (a2 := (0, 0)) (mm' := mX10_isOne) (S := []) [jI (M 101 x3)] md_X10_isOne im_X10_isOne se_X10_isOne dX10_fits_45 wm_X10_109 jcl_X10.1 rfl g_96 rfl rfl (Nat.le_of_ble_eq_true rfl) (Nat.le_of_ble_eq_true rfl) rfl (c_X10_isOne   (fun c3 => (J_if_eq dX10_fits_48 (tgt := 71) (by decide) (fun c => absurd c (by decide)) (fun _ => (J_aload_n dX10_fits_51 rfl (J_iload_n dX10_fits_52 rfl (J_iload dX10_fits_53 rfl (J_callV (a1 := (0, 0)) (a2 := (0, 0)) (mm' := mX10_lookedBy) (S := []) [jI x1, jI (M 101 x3)] md_X10_lookedBy im_X10_lookedBy se_X10_lookedBy dX10_fits_55 wm_X10_262 jcl_X10.1 rfl g_96 rfl rfl (Nat.le_of_ble_eq_true rfl) (Nat.le_of_ble_eq_true rfl) rfl (k3 c1 c2 c3)))))))) (fun c3 => (J_if_eq dX10_fits_48 (tgt := 71) (by decide) (fun _ => (k4 c1 c2 c3)) (fun c => absurd c (by decide)))))))))))))))))))))
theorem b_X10_fits_58 {l : Launch} {z d : Nat} {X : jX} {M : Nat → Int → Int} {Q : Option jV → jM → Prop} {x1 : Int} {x2 : Int} {x3 : Int} {x4 : Int} {t0 : Int}  (s1 : 0 ≤ x3) (s2 : x3 < 8) (k1 : t0 ≠ (M 102 x3) → J l z X (d + 2) mX10_fits (0, 0) 71 [jR 96, jI x1, jI x2, jI x3, jI x4] [] (jG, M) Q) (k2 : t0 = (M 102 x3) → J l z X (d + 2) mX10_fits (0, 0) 72 [jR 96, jI x1, jI x2, jI x3, jI x4] [jI 1] (jG, M) Q) : J l z X (d + 2) mX10_fits (0, 0) 58 [jR 96, jI x1, jI x2, jI x3, jI x4] [jI t0] (jG, M) Q :=
  (J_aload_n dX10_fits_58 rfl (J_getR (k := 9) jcl_X10 dX10_fits_59 wf_X10_25 g_96 (Nat.le_of_ble_eq_true rfl) rfl rfl (J_iload_n dX10_fits_62 rfl (J_iald dX10_fits_63 g_102 s1 s2 (J_icmp_ne dX10_fits_64 (tgt := 71) (by decide) (fun c1 => (k1 c1)) (fun c1 => (J_iconst dX10_fits_67 jc_1 (J_goto dX10_fits_68 (tgt := 72) (by decide) (k2 c1)))))))))
theorem b_X10_fits_71 {l : Launch} {z d : Nat} {X : jX} {M : Nat → Int → Int} {Q : Option jV → jM → Prop} {x1 : Int} {x2 : Int} {x3 : Int} {x4 : Int}   (k1 : J l z X (d + 2) mX10_fits (0, 0) 72 [jR 96, jI x1, jI x2, jI x3, jI x4] [jI 0] (jG, M) Q) : J l z X (d + 2) mX10_fits (0, 0) 71 [jR 96, jI x1, jI x2, jI x3, jI x4] [] (jG, M) Q :=
  (J_iconst dX10_fits_71 jc_0 k1)
theorem b_X10_fits_72 {l : Launch} {z d : Nat} {X : jX} {M : Nat → Int → Int} {Q : Option jV → jM → Prop} {x1 : Int} {x2 : Int} {x3 : Int} {x4 : Int} {t0 : Int}  (s1 : jIn (x3 + 1)) (k1 : J l z X (d + 2) mX10_fits (0, 0) 22 [jR 96, jI x1, jI t0, jI (x3 + 1), jN] [] (jG, M) Q) : J l z X (d + 2) mX10_fits (0, 0) 72 [jR 96, jI x1, jI x2, jI x3, jI x4] [jI t0] (jG, M) Q :=
  (J_istore_n dX10_fits_72 (Nat.le_of_ble_eq_true rfl) (J_iinc dX10_fits_73 rfl jc_1 s1 (J_goto dX10_fits_76 (tgt := 22) (by decide) (J_weak [jR 96, jI x1, jI t0, jI (x3 + 1), jN] ⟨Or.inr rfl, Or.inr rfl, Or.inr rfl, Or.inr rfl, Or.inl rfl, trivial⟩ k1))))
theorem b_X10_givers_0 {l : Launch} {z d : Nat} {X : jX} {M : Nat → Int → Int} {Q : Option jV → jM → Prop}    (k1 : J l z X (d + 3) mX10_givers (0, 0) 4 [jR 96, jI 0, jI 0] [] (jG, M) Q) : J l z X (d + 3) mX10_givers (0, 0) 0 [jR 96, jN, jN] [] (jG, M) Q :=
  (J_iconst dX10_givers_0 jc_0 (J_istore_n dX10_givers_1 (Nat.le_of_ble_eq_true rfl) (J_iconst dX10_givers_2 jc_0 (J_istore_n dX10_givers_3 (Nat.le_of_ble_eq_true rfl) k1))))
theorem b_X10_givers_4 {l : Launch} {z d : Nat} {X : jX} {M : Nat → Int → Int} {Q : Option jV → jM → Prop} {x1 : Int} {x2 : Int}   (k1 : 6 < x2 → Q (some (jI x1)) (jG, M)) (k2 : x2 ≤ 6 → J l z X (d + 2) mX10_fits (0, 0) 0 [jR 96, jI x2, jN, jN, jN] [] (jG, M) (fun r μ => J l z X (d + 3) mX10_givers (0, 0) 16 [jR 96, jI x1, jI x2] (r.toList ++ [jI x1]) μ Q)) : J l z X (d + 3) mX10_givers (0, 0) 4 [jR 96, jI x1, jI x2] [] (jG, M) Q :=
  (J_iload_n dX10_givers_4 rfl (J_bipush dX10_givers_5 jc_6 jb_6 (J_icmp_gt dX10_givers_7 (tgt := 34) (by decide) (fun c1 => (J_iload_n dX10_givers_34 rfl (J_iret dX10_givers_35 rfl (k1 c1)))) (fun c1 => (J_iload_n dX10_givers_10 rfl (J_aload_n dX10_givers_11 rfl (J_iload_n dX10_givers_12 rfl (J_callV (a1 := (0, 0)) (a2 := (0, 0)) (mm' := mX10_fits) (S := [jI x1]) [jI x2] md_X10_fits im_X10_fits se_X10_fits dX10_givers_13 wm_X10_265 jcl_X10.1 rfl g_96 rfl rfl (Nat.le_of_ble_eq_true rfl) (Nat.le_of_ble_eq_true rfl) rfl (k2 c1)))))))))
theorem b_X10_givers_16 {l : Launch} {z d : Nat} {X : jX} {M : Nat → Int → Int} {Q : Option jV → jM → Prop} {x1 : Int} {x2 : Int} {t0 : Int} {t1 : Int}   (k1 : t1 = 0 → J l z X (d + 3) mX10_givers (0, 0) 26 [jR 96, jI x1, jI x2] [jI 0, jI t0] (jG, M) Q) (k2 : t1 ≠ 0 → J l z X (d + 3) mX10_givers (0, 0) 26 [jR 96, jI x1, jI x2] [jI (jshl 1 x2), jI t0] (jG, M) Q) : J l z X (d + 3) mX10_givers (0, 0) 16 [jR 96, jI x1, jI x2] [jI t1, jI t0] (jG, M) Q :=
  (J_if_eq dX10_givers_16 (tgt := 25) (by decide) (fun c1 => (J_iconst dX10_givers_25 jc_0 (k1 c1))) (fun c1 => (J_iconst dX10_givers_19 jc_1 (J_iload_n dX10_givers_20 rfl (J_ishl dX10_givers_21 (J_goto dX10_givers_22 (tgt := 26) (by decide) (k2 c1)))))))
theorem b_X10_givers_26 {l : Launch} {z d : Nat} {X : jX} {M : Nat → Int → Int} {Q : Option jV → jM → Prop} {x1 : Int} {x2 : Int} {t0 : Int} {t1 : Int}  (s1 : jIn (x2 + 1)) (k1 : J l z X (d + 3) mX10_givers (0, 0) 4 [jR 96, jI (jor t0 t1), jI (x2 + 1)] [] (jG, M) Q) : J l z X (d + 3) mX10_givers (0, 0) 26 [jR 96, jI x1, jI x2] [jI t1, jI t0] (jG, M) Q :=
  (J_ior dX10_givers_26 (J_istore_n dX10_givers_27 (Nat.le_of_ble_eq_true rfl) (J_iinc dX10_givers_28 rfl jc_1 s1 (J_goto dX10_givers_31 (tgt := 4) (by decide) k1))))
theorem b_X10_gave_0 {l : Launch} {z d : Nat} {X : jX} {M : Nat → Int → Int} {Q : Option jV → jM → Prop} {x1 : Int}   (k1 : 0 ≤ x1 ∧ x1 ≤ 1 → x1 ≠ 0 → J l z X (d + 3) mX10_givers (0, 0) 0 [jR 96, jN, jN] [] (jG, M) (fun r μ => J l z X (d + 4) mX10_gave (0, 0) 31 [jR 96, jI x1] (r.toList ++ []) μ Q)) (k2 : 0 ≤ x1 ∧ x1 ≤ 1 → x1 = 0 → J l z X (d + 3) mX10_givers (0, 0) 0 [jR 96, jN, jN] [] (jG, M) (fun r μ => J l z X (d + 4) mX10_gave (0, 0) 21 [jR 96, jI x1] (r.toList ++ []) μ Q)) (k3 : ¬ (0 ≤ x1 ∧ x1 ≤ 1) → Q (some (jI (-2))) (jG, M)) : J l z X (d + 4) mX10_gave (0, 0) 0 [jR 96, jI x1] [] (jG, M) Q :=
  (J_iload_n dX10_gave_0 rfl (J_i2l dX10_gave_1 (J_lconst dX10_gave_2 jlc_0 jlv_0 (J_lconst dX10_gave_3 jlc_1 jlv_1 (J_callS (a1 := (0, 0)) (a2 := (0, 0)) (mm' := mX10_in) (S := []) [jL x1, jL 0, jL 1] md_X10_in is_X10_in dX10_gave_4 wm_X10_94 rfl rfl (Nat.le_of_ble_eq_true rfl) (Nat.le_of_ble_eq_true rfl) rfl (c_X10_in   (fun c1 => (J_if_ne dX10_gave_7 (tgt := 13) (by decide) (fun _ => (J_iload_n dX10_gave_13 rfl (J_if_ne dX10_gave_14 (tgt := 27) (by decide) (fun c2 => (J_aload_n dX10_gave_27 rfl (J_callV (a1 := (0, 0)) (a2 := (0, 0)) (mm' := mX10_givers) (S := []) [] md_X10_givers im_X10_givers se_X10_givers dX10_gave_28 wm_X10_268 jcl_X10.1 rfl g_96 rfl rfl (Nat.le_of_ble_eq_true rfl) (Nat.le_of_ble_eq_true rfl) rfl (k1 c1 c2)))) (fun c2 => (J_aload_n dX10_gave_17 rfl (J_callV (a1 := (0, 0)) (a2 := (0, 0)) (mm' := mX10_givers) (S := []) [] md_X10_givers im_X10_givers se_X10_givers dX10_gave_18 wm_X10_268 jcl_X10.1 rfl g_96 rfl rfl (Nat.le_of_ble_eq_true rfl) (Nat.le_of_ble_eq_true rfl) rfl (k2 c1 c2))))))) (fun c => absurd c (by decide)))) (fun c1 => (J_if_ne dX10_gave_7 (tgt := 13) (by decide) (fun c => absurd c (by decide)) (fun _ => (J_bipush dX10_gave_10 jc_m2 jb_m2 (J_iret dX10_gave_12 rfl (k3 c1))))))))))))
theorem b_X10_gave_21 {l : Launch} {z d : Nat} {X : jX} {M : Nat → Int → Int} {Q : Option jV → jM → Prop} {x1 : Int} {t0 : Int}  (s1 : 0 ≤ t0 ∧ t0 < 128) (k1 : Q (some (jI (popc t0))) (jG, M)) : J l z X (d + 4) mX10_gave (0, 0) 21 [jR 96, jI x1] [jI t0] (jG, M) Q :=
  (J_callS (a1 := (0, 0)) (a2 := (0, 0)) (mm' := mX10_ones) (S := []) [jI t0] md_X10_ones is_X10_ones dX10_gave_21 wm_X10_105 rfl rfl (Nat.le_of_ble_eq_true rfl) (Nat.le_of_ble_eq_true rfl) rfl (c_X10_ones  s1 (J_goto dX10_gave_24 (tgt := 34) (by decide) (J_iret dX10_gave_34 rfl k1))))
theorem b_X10_gave_31 {l : Launch} {z d : Nat} {X : jX} {M : Nat → Int → Int} {Q : Option jV → jM → Prop} {x1 : Int} {t0 : Int}   (k1 : Q (some (jI (jand t0 63))) (jG, M)) : J l z X (d + 4) mX10_gave (0, 0) 31 [jR 96, jI x1] [jI t0] (jG, M) Q :=
  (J_bipush dX10_gave_31 jc_63 jb_63 (J_iand dX10_gave_33 (J_iret dX10_gave_34 rfl k1)))
theorem b_X10_mostAlike_0 {l : Launch} {z d : Nat} {X : jX} {M : Nat → Int → Int} {Q : Option jV → jM → Prop} {x1 : Int} {x2 : Int}   (k1 : J l z X (d + 2) mX10_mostAlike (0, 0) 5 [jR 96, jI x1, jI x2, jI 0, jI 0, jN, jN, jN] [] (jG, M) Q) : J l z X (d + 2) mX10_mostAlike (0, 0) 0 [jR 96, jI x1, jI x2, jN, jN, jN, jN, jN] [] (jG, M) Q :=
  (J_iconst dX10_mostAlike_0 jc_0 (J_istore_n dX10_mostAlike_1 (Nat.le_of_ble_eq_true rfl) (J_iconst dX10_mostAlike_2 jc_0 (J_istore dX10_mostAlike_3 (Nat.le_of_ble_eq_true rfl) k1))))
theorem b_X10_mostAlike_5 {l : Launch} {z d : Nat} {X : jX} {M : Nat → Int → Int} {Q : Option jV → jM → Prop} {x1 : Int} {x2 : Int} {x3 : Int} {x4 : Int}   (k1 : 6 < x4 → Q (some (jI x3)) (jG, M)) (k2 : x4 ≤ 6 → J l z X (d + 2) mX10_mostAlike (0, 0) 18 [jR 96, jI x1, jI x2, jI x3, jI x4, jI 0, jI 0, jN] [] (jG, M) Q) : J l z X (d + 2) mX10_mostAlike (0, 0) 5 [jR 96, jI x1, jI x2, jI x3, jI x4, jN, jN, jN] [] (jG, M) Q :=
  (J_iload dX10_mostAlike_5 rfl (J_bipush dX10_mostAlike_7 jc_6 jb_6 (J_icmp_gt dX10_mostAlike_9 (tgt := 109) (by decide) (fun c1 => (J_iload_n dX10_mostAlike_109 rfl (J_iret dX10_mostAlike_110 rfl (k1 c1)))) (fun c1 => (J_iconst dX10_mostAlike_12 jc_0 (J_istore dX10_mostAlike_13 (Nat.le_of_ble_eq_true rfl) (J_iconst dX10_mostAlike_15 jc_0 (J_istore dX10_mostAlike_16 (Nat.le_of_ble_eq_true rfl) (k2 c1)))))))))
theorem b_X10_mostAlike_18 {l : Launch} {z d : Nat} {X : jX} {M : Nat → Int → Int} {Q : Option jV → jM → Prop} {x1 : Int} {x2 : Int} {x3 : Int} {x4 : Int} {x5 : Int} {x6 : Int}   (k1 : 6 < x6 → x5 ≤ x3 → J l z X (d + 2) mX10_mostAlike (0, 0) 102 [jR 96, jI x1, jI x2, jI x3, jI x4, jI x5, jI x6, jN] [jI x3] (jG, M) Q) (k2 : 6 < x6 → x3 < x5 → J l z X (d + 2) mX10_mostAlike (0, 0) 102 [jR 96, jI x1, jI x2, jI x3, jI x4, jI x5, jI x6, jN] [jI x5] (jG, M) Q) (k3 : x6 ≤ 6 → (jand (jshr x1 x4) 1) ≠ 1 → J l z X (d + 2) mX10_mostAlike (0, 0) 49 [jR 96, jI x1, jI x2, jI x3, jI x4, jI x5, jI x6, jN] [] (jG, M) Q) (k4 : x6 ≤ 6 → (jand (jshr x1 x4) 1) = 1 → (jand (jshr x1 x6) 1) ≠ 1 → J l z X (d + 2) mX10_mostAlike (0, 0) 49 [jR 96, jI x1, jI x2, jI x3, jI x4, jI x5, jI x6, jN] [] (jG, M) Q) (k5 : x6 ≤ 6 → (jand (jshr x1 x4) 1) = 1 → (jand (jshr x1 x6) 1) = 1 → J l z X (d + 2) mX10_mostAlike (0, 0) 50 [jR 96, jI x1, jI x2, jI x3, jI x4, jI x5, jI x6, jN] [jI 1] (jG, M) Q) : J l z X (d + 2) mX10_mostAlike (0, 0) 18 [jR 96, jI x1, jI x2, jI x3, jI x4, jI x5, jI x6, jN] [] (jG, M) Q :=
  (J_iload dX10_mostAlike_18 rfl (J_bipush dX10_mostAlike_20 jc_6 jb_6 (J_icmp_gt dX10_mostAlike_22 (tgt := 90) (by decide) (fun c1 => (J_iload dX10_mostAlike_90 rfl (J_iload_n dX10_mostAlike_92 rfl (J_icmp_le dX10_mostAlike_93 (tgt := 101) (by decide) (fun c2 => (J_iload_n dX10_mostAlike_101 rfl (k1 c1 c2))) (fun c2 => (J_iload dX10_mostAlike_96 rfl (J_goto dX10_mostAlike_98 (tgt := 102) (by decide) (k2 c1 c2)))))))) (fun c1 => (J_iload_n dX10_mostAlike_25 rfl (J_iload dX10_mostAlike_26 rfl (J_ishr dX10_mostAlike_28 (J_iconst dX10_mostAlike_29 jc_1 (J_iand dX10_mostAlike_30 (J_iconst dX10_mostAlike_31 jc_1 (J_icmp_ne dX10_mostAlike_32 (tgt := 49) (by decide) (fun c3 => (k3 c1 c3)) (fun c3 => (J_iload_n dX10_mostAlike_35 rfl (J_iload dX10_mostAlike_36 rfl (J_ishr dX10_mostAlike_38 (J_iconst dX10_mostAlike_39 jc_1 (J_iand dX10_mostAlike_40 (J_iconst dX10_mostAlike_41 jc_1 (J_icmp_ne dX10_mostAlike_42 (tgt := 49) (by decide) (fun c4 => (k4 c1 c3 c4)) (fun c4 => (J_iconst dX10_mostAlike_45 jc_1 (J_goto dX10_mostAlike_46 (tgt := 50) (by decide) (k5 c1 c3 c4)))))))))))))))))))))))
theorem b_X10_mostAlike_49 {l : Launch} {z d : Nat} {X : jX} {M : Nat → Int → Int} {Q : Option jV → jM → Prop} {x1 : Int} {x2 : Int} {x3 : Int} {x4 : Int} {x5 : Int} {x6 : Int}   (k1 : J l z X (d + 2) mX10_mostAlike (0, 0) 50 [jR 96, jI x1, jI x2, jI x3, jI x4, jI x5, jI x6, jN] [jI 0] (jG, M) Q) : J l z X (d + 2) mX10_mostAlike (0, 0) 49 [jR 96, jI x1, jI x2, jI x3, jI x4, jI x5, jI x6, jN] [] (jG, M) Q :=
  (J_iconst dX10_mostAlike_49 jc_0 k1)
theorem b_X10_mostAlike_50 {l : Launch} {z d : Nat} {X : jX} {M : Nat → Int → Int} {Q : Option jV → jM → Prop} {x1 : Int} {x2 : Int} {x3 : Int} {x4 : Int} {x5 : Int} {x6 : Int} {t0 : Int}   (k1 : t0 = 0 → J l z X (d + 2) mX10_mostAlike (0, 0) 80 [jR 96, jI x1, jI x2, jI x3, jI x4, jI x5, jI x6, jI t0] [jI x5] (jG, M) Q) (k2 : t0 ≠ 0 → J l z X (d + 1) mX10_lookedBy (0, 0) 0 [jR 96, jI x4, jI x2] [] (jG, M) (fun r μ => J l z X (d + 2) mX10_mostAlike (0, 0) 66 [jR 96, jI x1, jI x2, jI x3, jI x4, jI x5, jI x6, jI t0] (r.toList ++ [jI x5]) μ Q)) : J l z X (d + 2) mX10_mostAlike (0, 0) 50 [jR 96, jI x1, jI x2, jI x3, jI x4, jI x5, jI x6, jN] [jI t0] (jG, M) Q :=
  (J_istore dX10_mostAlike_50 (Nat.le_of_ble_eq_true rfl) (J_iload dX10_mostAlike_52 rfl (J_iload dX10_mostAlike_54 rfl (J_if_eq dX10_mostAlike_56 (tgt := 80) (by decide) (fun c1 => (k1 c1)) (fun c1 => (J_aload_n dX10_mostAlike_59 rfl (J_iload dX10_mostAlike_60 rfl (J_iload_n dX10_mostAlike_62 rfl (J_callV (a1 := (0, 0)) (a2 := (0, 0)) (mm' := mX10_lookedBy) (S := [jI x5]) [jI x4, jI x2] md_X10_lookedBy im_X10_lookedBy se_X10_lookedBy dX10_mostAlike_63 wm_X10_262 jcl_X10.1 rfl g_96 rfl rfl (Nat.le_of_ble_eq_true rfl) (Nat.le_of_ble_eq_true rfl) rfl (k2 c1))))))))))
theorem b_X10_mostAlike_66 {l : Launch} {z d : Nat} {X : jX} {M : Nat → Int → Int} {Q : Option jV → jM → Prop} {x1 : Int} {x2 : Int} {x3 : Int} {x4 : Int} {x5 : Int} {x6 : Int} {x7 : Int} {t0 : Int} {t1 : Int}   (k1 : J l z X (d + 1) mX10_lookedBy (0, 0) 0 [jR 96, jI x6, jI x2] [] (jG, M) (fun r μ => J l z X (d + 2) mX10_mostAlike (0, 0) 73 [jR 96, jI x1, jI x2, jI x3, jI x4, jI x5, jI x6, jI x7] (r.toList ++ [jI t1, jI t0]) μ Q)) : J l z X (d + 2) mX10_mostAlike (0, 0) 66 [jR 96, jI x1, jI x2, jI x3, jI x4, jI x5, jI x6, jI x7] [jI t1, jI t0] (jG, M) Q :=
  (J_aload_n dX10_mostAlike_66 rfl (J_iload dX10_mostAlike_67 rfl (J_iload_n dX10_mostAlike_69 rfl (J_callV (a1 := (0, 0)) (a2 := (0, 0)) (mm' := mX10_lookedBy) (S := [jI t1, jI t0]) [jI x6, jI x2] md_X10_lookedBy im_X10_lookedBy se_X10_lookedBy dX10_mostAlike_70 wm_X10_262 jcl_X10.1 rfl g_96 rfl rfl (Nat.le_of_ble_eq_true rfl) (Nat.le_of_ble_eq_true rfl) rfl k1))))
theorem b_X10_mostAlike_73 {l : Launch} {z d : Nat} {X : jX} {M : Nat → Int → Int} {Q : Option jV → jM → Prop} {x1 : Int} {x2 : Int} {x3 : Int} {x4 : Int} {x5 : Int} {x6 : Int} {x7 : Int} {t0 : Int} {t1 : Int} {t2 : Int}   (k1 : t1 ≠ t2 → J l z X (d + 2) mX10_mostAlike (0, 0) 80 [jR 96, jI x1, jI x2, jI x3, jI x4, jI x5, jI x6, jI x7] [jI t0] (jG, M) Q) (k2 : t1 = t2 → J l z X (d + 2) mX10_mostAlike (0, 0) 81 [jR 96, jI x1, jI x2, jI x3, jI x4, jI x5, jI x6, jI x7] [jI 1, jI t0] (jG, M) Q) : J l z X (d + 2) mX10_mostAlike (0, 0) 73 [jR 96, jI x1, jI x2, jI x3, jI x4, jI x5, jI x6, jI x7] [jI t2, jI t1, jI t0] (jG, M) Q :=
  (J_icmp_ne dX10_mostAlike_73 (tgt := 80) (by decide) (fun c1 => (k1 c1)) (fun c1 => (J_iconst dX10_mostAlike_76 jc_1 (J_goto dX10_mostAlike_77 (tgt := 81) (by decide) (k2 c1)))))
theorem b_X10_mostAlike_80 {l : Launch} {z d : Nat} {X : jX} {M : Nat → Int → Int} {Q : Option jV → jM → Prop} {x1 : Int} {x2 : Int} {x3 : Int} {x4 : Int} {x5 : Int} {x6 : Int} {x7 : Int} {t0 : Int}   (k1 : J l z X (d + 2) mX10_mostAlike (0, 0) 81 [jR 96, jI x1, jI x2, jI x3, jI x4, jI x5, jI x6, jI x7] [jI 0, jI t0] (jG, M) Q) : J l z X (d + 2) mX10_mostAlike (0, 0) 80 [jR 96, jI x1, jI x2, jI x3, jI x4, jI x5, jI x6, jI x7] [jI t0] (jG, M) Q :=
  (J_iconst dX10_mostAlike_80 jc_0 k1)
theorem b_X10_mostAlike_81 {l : Launch} {z d : Nat} {X : jX} {M : Nat → Int → Int} {Q : Option jV → jM → Prop} {x1 : Int} {x2 : Int} {x3 : Int} {x4 : Int} {x5 : Int} {x6 : Int} {x7 : Int} {t0 : Int} {t1 : Int}  (s1 : jIn (t0 + t1)) (s2 : jIn (x6 + 1)) (k1 : J l z X (d + 2) mX10_mostAlike (0, 0) 18 [jR 96, jI x1, jI x2, jI x3, jI x4, jI (t0 + t1), jI (x6 + 1), jN] [] (jG, M) Q) : J l z X (d + 2) mX10_mostAlike (0, 0) 81 [jR 96, jI x1, jI x2, jI x3, jI x4, jI x5, jI x6, jI x7] [jI t1, jI t0] (jG, M) Q :=
  (J_iadd dX10_mostAlike_81 s1 (J_istore dX10_mostAlike_82 (Nat.le_of_ble_eq_true rfl) (J_iinc dX10_mostAlike_84 rfl jc_1 s2 (J_goto dX10_mostAlike_87 (tgt := 18) (by decide) (J_weak [jR 96, jI x1, jI x2, jI x3, jI x4, jI (t0 + t1), jI (x6 + 1), jN] ⟨Or.inr rfl, Or.inr rfl, Or.inr rfl, Or.inr rfl, Or.inr rfl, Or.inr rfl, Or.inr rfl, Or.inl rfl, trivial⟩ k1)))))
theorem b_X10_mostAlike_102 {l : Launch} {z d : Nat} {X : jX} {M : Nat → Int → Int} {Q : Option jV → jM → Prop} {x1 : Int} {x2 : Int} {x3 : Int} {x4 : Int} {x5 : Int} {x6 : Int} {t0 : Int}  (s1 : jIn (x4 + 1)) (k1 : J l z X (d + 2) mX10_mostAlike (0, 0) 5 [jR 96, jI x1, jI x2, jI t0, jI (x4 + 1), jN, jN, jN] [] (jG, M) Q) : J l z X (d + 2) mX10_mostAlike (0, 0) 102 [jR 96, jI x1, jI x2, jI x3, jI x4, jI x5, jI x6, jN] [jI t0] (jG, M) Q :=
  (J_istore_n dX10_mostAlike_102 (Nat.le_of_ble_eq_true rfl) (J_iinc dX10_mostAlike_103 rfl jc_1 s1 (J_goto dX10_mostAlike_106 (tgt := 5) (by decide) (J_weak [jR 96, jI x1, jI x2, jI t0, jI (x4 + 1), jN, jN, jN] ⟨Or.inr rfl, Or.inr rfl, Or.inr rfl, Or.inr rfl, Or.inr rfl, Or.inl rfl, Or.inl rfl, Or.inr rfl, trivial⟩ k1))))
theorem b_X10_ask_0 {l : Launch} {z d : Nat} {X : jX} {M : Nat → Int → Int} {Q : Option jV → jM → Prop} {x1 : Int}   (k1 : 0 ≤ x1 ∧ x1 ≤ 1 → J l z X (d + 3) mX10_givers (0, 0) 0 [jR 96, jN, jN] [] (jG, M) (fun r μ => J l z X (d + 4) mX10_ask (0, 0) 17 [jR 96, jI x1, jN, jN, jN] (r.toList ++ []) μ Q)) (k2 : ¬ (0 ≤ x1 ∧ x1 ≤ 1) → Q (some (jI (-2))) (jG, M)) : J l z X (d + 4) mX10_ask (0, 0) 0 [jR 96, jI x1, jN, jN, jN] [] (jG, M) Q :=
  (J_iload_n dX10_ask_0 rfl (J_i2l dX10_ask_1 (J_lconst dX10_ask_2 jlc_0 jlv_0 (J_lconst dX10_ask_3 jlc_1 jlv_1 (J_callS (a1 := (0, 0)) (a2 := (0, 0)) (mm' := mX10_in) (S := []) [jL x1, jL 0, jL 1] md_X10_in is_X10_in dX10_ask_4 wm_X10_94 rfl rfl (Nat.le_of_ble_eq_true rfl) (Nat.le_of_ble_eq_true rfl) rfl (c_X10_in   (fun c1 => (J_if_ne dX10_ask_7 (tgt := 13) (by decide) (fun _ => (J_aload_n dX10_ask_13 rfl (J_callV (a1 := (0, 0)) (a2 := (0, 0)) (mm' := mX10_givers) (S := []) [] md_X10_givers im_X10_givers se_X10_givers dX10_ask_14 wm_X10_268 jcl_X10.1 rfl g_96 rfl rfl (Nat.le_of_ble_eq_true rfl) (Nat.le_of_ble_eq_true rfl) rfl (k1 c1)))) (fun c => absurd c (by decide)))) (fun c1 => (J_if_ne dX10_ask_7 (tgt := 13) (by decide) (fun c => absurd c (by decide)) (fun _ => (J_bipush dX10_ask_10 jc_m2 jb_m2 (J_iret dX10_ask_12 rfl (k2 c1))))))))))))
theorem b_X10_ask_17 {l : Launch} {z d : Nat} {X : jX} {M : Nat → Int → Int} {Q : Option jV → jM → Prop} {x1 : Int} {t0 : Int}   (k1 : J l z X (d + 4) mX10_ask (0, 0) 24 [jR 96, jI x1, jI t0, jI (-6), jI 0] [] (jG, M) Q) : J l z X (d + 4) mX10_ask (0, 0) 17 [jR 96, jI x1, jN, jN, jN] [jI t0] (jG, M) Q :=
  (J_istore_n dX10_ask_17 (Nat.le_of_ble_eq_true rfl) (J_bipush dX10_ask_18 jc_m6 jb_m6 (J_istore_n dX10_ask_20 (Nat.le_of_ble_eq_true rfl) (J_iconst dX10_ask_21 jc_0 (J_istore dX10_ask_22 (Nat.le_of_ble_eq_true rfl) k1)))))
theorem b_X10_ask_24 {l : Launch} {z d : Nat} {X : jX} {M : Nat → Int → Int} {Q : Option jV → jM → Prop} {x1 : Int} {x2 : Int} {x3 : Int} {x4 : Int}   (k1 : 6 ≤ x4 → J l z X (d + 4) mX10_ask (0, 0) 77 [jR 96, jI x1, jI x2, jI x3, jI x4] [] (jG, M) Q) (k2 : x4 < 6 → x2 = 0 → J l z X (d + 4) mX10_ask (0, 0) 77 [jR 96, jI x1, jI x2, jI x3, jI x4] [] (jG, M) Q) (k3 : x4 < 6 → x2 ≠ 0 → hasB (M 96 0) x4 = true → x3 < 0 → J l z X (d + 4) mX10_ask (0, 0) 64 [jR 96, jI x1, jI x2, jI x3, jI x4] [] (jG, M) Q) (k4 : x4 < 6 → x2 ≠ 0 → hasB (M 96 0) x4 = true → 0 ≤ x3 → J l z X (d + 3) mX10_mostAlike (0, 0) 0 [jR 96, jI x2, jI x4, jN, jN, jN, jN, jN] [] (jG, M) (fun r μ => J l z X (d + 4) mX10_ask (0, 0) 55 [jR 96, jI x1, jI x2, jI x3, jI x4] (r.toList ++ []) μ Q)) (k5 : x4 < 6 → x2 ≠ 0 → hasB (M 96 0) x4 = false → J l z X (d + 4) mX10_ask (0, 0) 69 [jR 96, jI x1, jI x2, jI x3, jI x4] [] (jG, M) Q) : J l z X (d + 4) mX10_ask (0, 0) 24 [jR 96, jI x1, jI x2, jI x3, jI x4] [] (jG, M) Q :=
  (J_iload dX10_ask_24 rfl (J_bipush dX10_ask_26 jc_6 jb_6 (J_icmp_ge dX10_ask_28 (tgt := 77) (by decide) (fun c1 => (k1 c1)) (fun c1 => (J_iload_n dX10_ask_31 rfl (J_if_eq dX10_ask_32 (tgt := 77) (by decide) (fun c2 => (k2 c1 c2)) (fun c2 => (J_aload_n dX10_ask_35 rfl (J_iload dX10_ask_36 rfl (J_callV (a1 := (0, 0)) (a2 := (0, 0)) (mm' := mX10_isOne) (S := []) [jI x4] md_X10_isOne im_X10_isOne se_X10_isOne dX10_ask_38 wm_X10_109 jcl_X10.1 rfl g_96 rfl rfl (Nat.le_of_ble_eq_true rfl) (Nat.le_of_ble_eq_true rfl) rfl (c_X10_isOne   (fun c3 => (J_if_eq dX10_ask_41 (tgt := 69) (by decide) (fun c => absurd c (by decide)) (fun _ => (J_iload_n dX10_ask_44 rfl (J_if_lt dX10_ask_45 (tgt := 64) (by decide) (fun c4 => (k3 c1 c2 c3 c4)) (fun c4 => (J_aload_n dX10_ask_48 rfl (J_iload_n dX10_ask_49 rfl (J_iload dX10_ask_50 rfl (J_callV (a1 := (0, 0)) (a2 := (0, 0)) (mm' := mX10_mostAlike) (S := []) [jI x2, jI x4] md_X10_mostAlike im_X10_mostAlike se_X10_mostAlike dX10_ask_52 wm_X10_271 jcl_X10.1 rfl g_96 rfl rfl (Nat.le_of_ble_eq_true rfl) (Nat.le_of_ble_eq_true rfl) rfl (k4 c1 c2 c3 c4))))))))))) (fun c3 => (J_if_eq dX10_ask_41 (tgt := 69) (by decide) (fun _ => (k5 c1 c2 c3)) (fun c => absurd c (by decide)))))))))))))))
theorem b_X10_ask_55 {l : Launch} {z d : Nat} {X : jX} {M : Nat → Int → Int} {Q : Option jV → jM → Prop} {x1 : Int} {x2 : Int} {x3 : Int} {x4 : Int} {t0 : Int}   (k1 : J l z X (d + 3) mX10_mostAlike (0, 0) 0 [jR 96, jI x2, jI x3, jN, jN, jN, jN, jN] [] (jG, M) (fun r μ => J l z X (d + 4) mX10_ask (0, 0) 61 [jR 96, jI x1, jI x2, jI x3, jI x4] (r.toList ++ [jI t0]) μ Q)) : J l z X (d + 4) mX10_ask (0, 0) 55 [jR 96, jI x1, jI x2, jI x3, jI x4] [jI t0] (jG, M) Q :=
  (J_aload_n dX10_ask_55 rfl (J_iload_n dX10_ask_56 rfl (J_iload_n dX10_ask_57 rfl (J_callV (a1 := (0, 0)) (a2 := (0, 0)) (mm' := mX10_mostAlike) (S := [jI t0]) [jI x2, jI x3] md_X10_mostAlike im_X10_mostAlike se_X10_mostAlike dX10_ask_58 wm_X10_271 jcl_X10.1 rfl g_96 rfl rfl (Nat.le_of_ble_eq_true rfl) (Nat.le_of_ble_eq_true rfl) rfl k1))))
theorem b_X10_ask_61 {l : Launch} {z d : Nat} {X : jX} {M : Nat → Int → Int} {Q : Option jV → jM → Prop} {x1 : Int} {x2 : Int} {x3 : Int} {x4 : Int} {t0 : Int} {t1 : Int}   (k1 : t1 ≤ t0 → J l z X (d + 4) mX10_ask (0, 0) 69 [jR 96, jI x1, jI x2, jI x3, jI x4] [] (jG, M) Q) (k2 : t0 < t1 → J l z X (d + 4) mX10_ask (0, 0) 64 [jR 96, jI x1, jI x2, jI x3, jI x4] [] (jG, M) Q) : J l z X (d + 4) mX10_ask (0, 0) 61 [jR 96, jI x1, jI x2, jI x3, jI x4] [jI t1, jI t0] (jG, M) Q :=
  (J_icmp_ge dX10_ask_61 (tgt := 69) (by decide) (fun c1 => (k1 c1)) (fun c1 => (k2 c1)))
theorem b_X10_ask_64 {l : Launch} {z d : Nat} {X : jX} {M : Nat → Int → Int} {Q : Option jV → jM → Prop} {x1 : Int} {x2 : Int} {x3 : Int} {x4 : Int}   (k1 : J l z X (d + 4) mX10_ask (0, 0) 70 [jR 96, jI x1, jI x2, jI x3, jI x4] [jI x4] (jG, M) Q) : J l z X (d + 4) mX10_ask (0, 0) 64 [jR 96, jI x1, jI x2, jI x3, jI x4] [] (jG, M) Q :=
  (J_iload dX10_ask_64 rfl (J_goto dX10_ask_66 (tgt := 70) (by decide) k1))
theorem b_X10_ask_69 {l : Launch} {z d : Nat} {X : jX} {M : Nat → Int → Int} {Q : Option jV → jM → Prop} {x1 : Int} {x2 : Int} {x3 : Int} {x4 : Int}   (k1 : J l z X (d + 4) mX10_ask (0, 0) 70 [jR 96, jI x1, jI x2, jI x3, jI x4] [jI x3] (jG, M) Q) : J l z X (d + 4) mX10_ask (0, 0) 69 [jR 96, jI x1, jI x2, jI x3, jI x4] [] (jG, M) Q :=
  (J_iload_n dX10_ask_69 rfl k1)
theorem b_X10_ask_70 {l : Launch} {z d : Nat} {X : jX} {M : Nat → Int → Int} {Q : Option jV → jM → Prop} {x1 : Int} {x2 : Int} {x3 : Int} {x4 : Int} {t0 : Int}  (s1 : jIn (x4 + 1)) (k1 : J l z X (d + 4) mX10_ask (0, 0) 24 [jR 96, jI x1, jI x2, jI t0, jI (x4 + 1)] [] (jG, M) Q) : J l z X (d + 4) mX10_ask (0, 0) 70 [jR 96, jI x1, jI x2, jI x3, jI x4] [jI t0] (jG, M) Q :=
  (J_istore_n dX10_ask_70 (Nat.le_of_ble_eq_true rfl) (J_iinc dX10_ask_71 rfl jc_1 s1 (J_goto dX10_ask_74 (tgt := 24) (by decide) k1)))
theorem b_X10_ask_77 {l : Launch} {z d : Nat} {X : jX} {M : Nat → Int → Int} {Q : Option jV → jM → Prop} {x1 : Int} {x2 : Int} {x3 : Int} {x4 : Int}   (k1 : x3 < 0 → J l z X (d + 4) mX10_ask (0, 0) 95 [jR 96, jI x1, jI x2, jI x3, jI x4] [jI x3] (jG, M) Q) (k2 : 0 ≤ x3 → x1 ≠ 0 → J l z X (d + 3) mX10_mostAlike (0, 0) 0 [jR 96, jI x2, jI x3, jN, jN, jN, jN, jN] [] (jG, M) (fun r μ => J l z X (d + 4) mX10_ask (0, 0) 95 [jR 96, jI x1, jI x2, jI x3, jI x4] (r.toList ++ []) μ Q)) (k3 : 0 ≤ x3 → x1 = 0 → J l z X (d + 4) mX10_ask (0, 0) 95 [jR 96, jI x1, jI x2, jI x3, jI x4] [jI x3] (jG, M) Q) : J l z X (d + 4) mX10_ask (0, 0) 77 [jR 96, jI x1, jI x2, jI x3, jI x4] [] (jG, M) Q :=
  (J_iload_n dX10_ask_77 rfl (J_if_lt dX10_ask_78 (tgt := 85) (by decide) (fun c1 => (J_iload_n dX10_ask_85 rfl (J_goto dX10_ask_86 (tgt := 95) (by decide) (k1 c1)))) (fun c1 => (J_iload_n dX10_ask_81 rfl (J_if_ne dX10_ask_82 (tgt := 89) (by decide) (fun c2 => (J_aload_n dX10_ask_89 rfl (J_iload_n dX10_ask_90 rfl (J_iload_n dX10_ask_91 rfl (J_callV (a1 := (0, 0)) (a2 := (0, 0)) (mm' := mX10_mostAlike) (S := []) [jI x2, jI x3] md_X10_mostAlike im_X10_mostAlike se_X10_mostAlike dX10_ask_92 wm_X10_271 jcl_X10.1 rfl g_96 rfl rfl (Nat.le_of_ble_eq_true rfl) (Nat.le_of_ble_eq_true rfl) rfl (k2 c1 c2)))))) (fun c2 => (J_iload_n dX10_ask_85 rfl (J_goto dX10_ask_86 (tgt := 95) (by decide) (k3 c1 c2)))))))))
theorem b_X10_ask_95 {l : Launch} {z d : Nat} {X : jX} {M : Nat → Int → Int} {Q : Option jV → jM → Prop} {x1 : Int} {x2 : Int} {x3 : Int} {x4 : Int} {t0 : Int}   (k1 : Q (some (jI t0)) (jG, M)) : J l z X (d + 4) mX10_ask (0, 0) 95 [jR 96, jI x1, jI x2, jI x3, jI x4] [jI t0] (jG, M) Q :=
  (J_iret dX10_ask_95 rfl k1)
theorem b_X10_thieves_0 {l : Launch} {z d : Nat} {X : jX} {M : Nat → Int → Int} {Q : Option jV → jM → Prop} {x1 : Int} {x2 : Int} {x3 : Int}  (s1 : 1 ≤ x1 ∧ x1 ≤ 99 → 1 ≤ x2 ∧ x2 ≤ 9 → 0 ≤ x3 ∧ x3 ≤ 1 → jIn (x1 - 1)) (s2 : 1 ≤ x1 ∧ x1 ≤ 99 → 1 ≤ x2 ∧ x2 ≤ 9 → 0 ≤ x3 ∧ x3 ≤ 1 → jIn (x2 + 1)) (s3 : 1 ≤ x1 ∧ x1 ≤ 99 → 1 ≤ x2 ∧ x2 ≤ 9 → 0 ≤ x3 ∧ x3 ≤ 1 → 0 ≤ (x1 - 1)) (s4 : 1 ≤ x1 ∧ x1 ≤ 99 → 1 ≤ x2 ∧ x2 ≤ 9 → 0 ≤ x3 ∧ x3 ≤ 1 → 0 < (x2 + 1)) (k1 : 1 ≤ x1 ∧ x1 ≤ 99 → 1 ≤ x2 ∧ x2 ≤ 9 → 0 ≤ x3 ∧ x3 ≤ 1 → x3 ≠ 0 → ((x1 - 1) % (x2 + 1)) ≤ 0 → Q (some (jI (-6))) (jG, M)) (k2 : 1 ≤ x1 ∧ x1 ≤ 99 → 1 ≤ x2 ∧ x2 ≤ 9 → 0 ≤ x3 ∧ x3 ≤ 1 → x3 ≠ 0 → 0 < ((x1 - 1) % (x2 + 1)) → Q (some (jI ((x1 - 1) % (x2 + 1)))) (jG, M)) (k3 : 1 ≤ x1 ∧ x1 ≤ 99 → 1 ≤ x2 ∧ x2 ≤ 9 → 0 ≤ x3 ∧ x3 ≤ 1 → x3 = 0 → ((x1 - 1) % (x2 + 1)) ≤ 0 → Q (some (jI 0)) (jG, M)) (k4 : 1 ≤ x1 ∧ x1 ≤ 99 → 1 ≤ x2 ∧ x2 ≤ 9 → 0 ≤ x3 ∧ x3 ≤ 1 → x3 = 0 → 0 < ((x1 - 1) % (x2 + 1)) → Q (some (jI 1)) (jG, M)) (k5 : 1 ≤ x1 ∧ x1 ≤ 99 → 1 ≤ x2 ∧ x2 ≤ 9 → ¬ (0 ≤ x3 ∧ x3 ≤ 1) → Q (some (jI (-2))) (jG, M)) (k6 : 1 ≤ x1 ∧ x1 ≤ 99 → ¬ (1 ≤ x2 ∧ x2 ≤ 9) → Q (some (jI (-2))) (jG, M)) (k7 : ¬ (1 ≤ x1 ∧ x1 ≤ 99) → Q (some (jI (-2))) (jG, M)) : J l z X (d + 1) mX10_thieves (0, 0) 0 [jR 96, jI x1, jI x2, jI x3, jN] [] (jG, M) Q :=
  (J_iload_n dX10_thieves_0 rfl (J_i2l dX10_thieves_1 (J_lconst dX10_thieves_2 jlc_1 jlv_1 (J_ldc2 dX10_thieves_3 (lw_X10_101) lcl_X10_101 rfl (J_callS (a1 := (0, 0)) (a2 := (0, 0)) (mm' := mX10_in) (S := []) [jL x1, jL 1, jL 99] md_X10_in is_X10_in dX10_thieves_6 wm_X10_94 rfl rfl (Nat.le_of_ble_eq_true rfl) (Nat.le_of_ble_eq_true rfl) rfl (c_X10_in   (fun c1 => (J_if_eq dX10_thieves_9 (tgt := 34) (by decide) (fun c => absurd c (by decide)) (fun _ => (J_iload_n dX10_thieves_12 rfl (J_i2l dX10_thieves_13 (J_lconst dX10_thieves_14 jlc_1 jlv_1 (J_ldc2 dX10_thieves_15 (lw_X10_103) lcl_X10_103 rfl (J_callS (a1 := (0, 0)) (a2 := (0, 0)) (mm' := mX10_in) (S := []) [jL x2, jL 1, jL 9] md_X10_in is_X10_in dX10_thieves_18 wm_X10_94 rfl rfl (Nat.le_of_ble_eq_true rfl) (Nat.le_of_ble_eq_true rfl) rfl (c_X10_in   (fun c2 => (J_if_eq dX10_thieves_21 (tgt := 34) (by decide) (fun c => absurd c (by decide)) (fun _ => (J_iload_n dX10_thieves_24 rfl (J_i2l dX10_thieves_25 (J_lconst dX10_thieves_26 jlc_0 jlv_0 (J_lconst dX10_thieves_27 jlc_1 jlv_1 (J_callS (a1 := (0, 0)) (a2 := (0, 0)) (mm' := mX10_in) (S := []) [jL x3, jL 0, jL 1] md_X10_in is_X10_in dX10_thieves_28 wm_X10_94 rfl rfl (Nat.le_of_ble_eq_true rfl) (Nat.le_of_ble_eq_true rfl) rfl (c_X10_in   (fun c3 => (J_if_ne dX10_thieves_31 (tgt := 37) (by decide) (fun _ => (J_iload_n dX10_thieves_37 rfl (J_iconst dX10_thieves_38 jc_1 (J_isub dX10_thieves_39 (s1 c1 c2 c3) (J_iload_n dX10_thieves_40 rfl (J_iconst dX10_thieves_41 jc_1 (J_iadd dX10_thieves_42 (s2 c1 c2 c3) (J_irem dX10_thieves_43 (s3 c1 c2 c3) (s4 c1 c2 c3) (J_istore dX10_thieves_44 (Nat.le_of_ble_eq_true rfl) (J_iload_n dX10_thieves_46 rfl (J_if_ne dX10_thieves_47 (tgt := 63) (by decide) (fun c4 => (J_iload dX10_thieves_63 rfl (J_if_le dX10_thieves_65 (tgt := 73) (by decide) (fun c5 => (J_bipush dX10_thieves_73 jc_m6 jb_m6 (J_iret dX10_thieves_75 rfl (k1 c1 c2 c3 c4 c5)))) (fun c5 => (J_iload dX10_thieves_68 rfl (J_goto dX10_thieves_70 (tgt := 75) (by decide) (J_iret dX10_thieves_75 rfl (k2 c1 c2 c3 c4 c5)))))))) (fun c4 => (J_iload dX10_thieves_50 rfl (J_if_le dX10_thieves_52 (tgt := 59) (by decide) (fun c6 => (J_iconst dX10_thieves_59 jc_0 (J_goto dX10_thieves_60 (tgt := 75) (by decide) (J_iret dX10_thieves_75 rfl (k3 c1 c2 c3 c4 c6))))) (fun c6 => (J_iconst dX10_thieves_55 jc_1 (J_goto dX10_thieves_56 (tgt := 75) (by decide) (J_iret dX10_thieves_75 rfl (k4 c1 c2 c3 c4 c6))))))))))))))))))) (fun c => absurd c (by decide)))) (fun c3 => (J_if_ne dX10_thieves_31 (tgt := 37) (by decide) (fun c => absurd c (by decide)) (fun _ => (J_bipush dX10_thieves_34 jc_m2 jb_m2 (J_iret dX10_thieves_36 rfl (k5 c1 c2 c3))))))))))))))) (fun c2 => (J_if_eq dX10_thieves_21 (tgt := 34) (by decide) (fun _ => (J_bipush dX10_thieves_34 jc_m2 jb_m2 (J_iret dX10_thieves_36 rfl (k6 c1 c2)))) (fun c => absurd c (by decide))))))))))))) (fun c1 => (J_if_eq dX10_thieves_9 (tgt := 34) (by decide) (fun _ => (J_bipush dX10_thieves_34 jc_m2 jb_m2 (J_iret dX10_thieves_36 rfl (k7 c1)))) (fun c => absurd c (by decide))))))))))
theorem b_X10_lowest_0 {l : Launch} {z d : Nat} {X : jX} {M : Nat → Int → Int} {Q : Option jV → jM → Prop} {x0 : Int} {x2 : Int} {x4 : Int}   (k1 : J l z X d mX10_lowest (0, 0) 6 [jL x0, jN, jL x2, jN, jI x4, jL x2, jN, jL x0, jN, jN, jN] [] (jG, M) Q) : J l z X d mX10_lowest (0, 0) 0 [jL x0, jN, jL x2, jN, jI x4, jN, jN, jN, jN, jN, jN] [] (jG, M) Q :=
  (J_lload_n dX10_lowest_0 rfl (J_lstore dX10_lowest_1 (Nat.le_of_ble_eq_true rfl) (J_lload_n dX10_lowest_3 rfl (J_lstore dX10_lowest_4 (Nat.le_of_ble_eq_true rfl) k1))))
theorem b_X10_lowest_6 {l : Launch} {z d : Nat} {X : jX} {M : Nat → Int → Int} {Q : Option jV → jM → Prop} {x0 : Int} {x2 : Int} {x4 : Int} {x5 : Int} {x7 : Int}  (s1 : x7 = 0 → x4 ≠ 0 → 0 ≤ x2) (s2 : x7 = 0 → x4 ≠ 0 → 0 < x5) (s3 : x7 = 0 → x4 = 0 → 0 ≤ x0) (s4 : x7 = 0 → x4 = 0 → 0 < x5) (s5 : x7 ≠ 0 → 0 ≤ x5) (s6 : x7 ≠ 0 → 0 < x7) (k1 : x7 = 0 → x4 ≠ 0 → Q (some (jL (x2 / x5))) (jG, M)) (k2 : x7 = 0 → x4 = 0 → Q (some (jL (x0 / x5))) (jG, M)) (k3 : x7 ≠ 0 → J l z X d mX10_lowest (0, 0) 6 [jL x0, jN, jL x2, jN, jI x4, jL x7, jN, jL (x5 % x7), jN, jN, jN] [] (jG, M) Q) : J l z X d mX10_lowest (0, 0) 6 [jL x0, jN, jL x2, jN, jI x4, jL x5, jN, jL x7, jN, jN, jN] [] (jG, M) Q :=
  (J_lload dX10_lowest_6 rfl (J_lconst dX10_lowest_8 jlc_0 jlv_0 (J_lif_eq dX10_lowest_9 dX10_lowest_10 (tgt := 31) (by decide) (fun c1 => (J_iload dX10_lowest_31 rfl (J_if_ne dX10_lowest_33 (tgt := 43) (by decide) (fun c2 => (J_lload_n dX10_lowest_43 rfl (J_lload dX10_lowest_44 rfl (J_ldiv dX10_lowest_46 (s1 c1 c2) (s2 c1 c2) (J_lret dX10_lowest_47 rfl (k1 c1 c2)))))) (fun c2 => (J_lload_n dX10_lowest_36 rfl (J_lload dX10_lowest_37 rfl (J_ldiv dX10_lowest_39 (s3 c1 c2) (s4 c1 c2) (J_goto dX10_lowest_40 (tgt := 47) (by decide) (J_lret dX10_lowest_47 rfl (k2 c1 c2)))))))))) (fun c1 => (J_lload dX10_lowest_13 rfl (J_lload dX10_lowest_15 rfl (J_lrem dX10_lowest_17 (s5 c1) (s6 c1) (J_lstore dX10_lowest_18 (Nat.le_of_ble_eq_true rfl) (J_lload dX10_lowest_20 rfl (J_lstore dX10_lowest_22 (Nat.le_of_ble_eq_true rfl) (J_lload dX10_lowest_24 rfl (J_lstore dX10_lowest_26 (Nat.le_of_ble_eq_true rfl) (J_goto dX10_lowest_28 (tgt := 6) (by decide) (J_weak [jL x0, jN, jL x2, jN, jI x4, jL x7, jN, jL (x5 % x7), jN, jN, jN] ⟨Or.inr rfl, Or.inr rfl, Or.inr rfl, Or.inr rfl, Or.inr rfl, Or.inr rfl, Or.inr rfl, Or.inr rfl, Or.inr rfl, Or.inl rfl, Or.inr rfl, trivial⟩ (k3 c1)))))))))))))))
theorem b_X10_wormyDay_0 {l : Launch} {z d : Nat} {X : jX} {M : Nat → Int → Int} {Q : Option jV → jM → Prop} {x1 : Int} {x2 : Int}   (k1 : J l z X (d + 1) mX10_wormyDay (0, 0) 2 [jR 96, jI x1, jI x2, jI 0] [] (jG, M) Q) : J l z X (d + 1) mX10_wormyDay (0, 0) 0 [jR 96, jI x1, jI x2, jN] [] (jG, M) Q :=
  (J_iconst dX10_wormyDay_0 jc_0 (J_istore_n dX10_wormyDay_1 (Nat.le_of_ble_eq_true rfl) k1))
theorem b_X10_wormyDay_2 {l : Launch} {z d : Nat} {X : jX} {M : Nat → Int → Int} {Q : Option jV → jM → Prop} {x1 : Int} {x2 : Int} {x3 : Int}  (s1 : x3 ≤ 99 → 0 ≤ x3) (s2 : x3 ≤ 99 → x3 < 100) (s3 : x3 ≤ 99 → jIn (x3 + 1)) (k1 : 99 < x3 → J l z X (d + 1) mX10_wormyDay (0, 0) 23 [jR 96, jI x1, jI x2, jI 0] [] (jG, M) Q) (k2 : x3 ≤ 99 → J l z X (d + 1) mX10_wormyDay (0, 0) 2 [jR 96, jI x1, jI x2, jI (x3 + 1)] [] (jG, (jupd M 118 x3 0)) Q) : J l z X (d + 1) mX10_wormyDay (0, 0) 2 [jR 96, jI x1, jI x2, jI x3] [] (jG, M) Q :=
  (J_iload_n dX10_wormyDay_2 rfl (J_bipush dX10_wormyDay_3 jc_99 jb_99 (J_icmp_gt dX10_wormyDay_5 (tgt := 21) (by decide) (fun c1 => (J_iconst dX10_wormyDay_21 jc_0 (J_istore_n dX10_wormyDay_22 (Nat.le_of_ble_eq_true rfl) (k1 c1)))) (fun c1 => (J_aload_n dX10_wormyDay_8 rfl (J_getR (k := 33) jcl_X10 dX10_wormyDay_9 wf_X10_75 g_96 (Nat.le_of_ble_eq_true rfl) rfl rfl (J_iload_n dX10_wormyDay_12 rfl (J_lconst dX10_wormyDay_13 jlc_0 jlv_0 (J_last dX10_wormyDay_14 g_118 (s1 c1) (s2 c1) (J_iinc dX10_wormyDay_15 rfl jc_1 (s3 c1) (J_goto dX10_wormyDay_18 (tgt := 2) (by decide) (k2 c1))))))))))))
theorem b_X10_wormyDay_23 {l : Launch} {z d : Nat} {X : jX} {M : Nat → Int → Int} {Q : Option jV → jM → Prop} {x1 : Int} {x2 : Int} {x3 : Int}  (s1 : x3 ≤ 99 → (0 ≤ x1 ∧ x1 < 6) ∧ (-1000 ≤ x3 ∧ x3 ≤ 1000) ∧ (0 ≤ (M 98 x1) ∧ (M 98 x1) ≤ 9)) (s2 : x3 ≤ 99 → 0 ≤ (agF (M 98 x1) (M 99 x1) x3 0)) (s3 : x3 ≤ 99 → (agF (M 98 x1) (M 99 x1) x3 0) < 100) (s4 : x3 ≤ 99 → 0 ≤ x3) (s5 : x3 ≤ 99 → x3 < 100) (s6 : x3 ≤ 99 → jInL (x2 * (M 117 x3))) (s7 : x3 ≤ 99 → jInL ((M 118 (agF (M 98 x1) (M 99 x1) x3 0)) + (x2 * (M 117 x3)))) (s8 : x3 ≤ 99 → (0 ≤ x1 ∧ x1 < 6) ∧ (-1000 ≤ x3 ∧ x3 ≤ 1000) ∧ (0 ≤ ((jupd M 118 (agF (M 98 x1) (M 99 x1) x3 0) ((M 118 (agF (M 98 x1) (M 99 x1) x3 0)) + (x2 * (M 117 x3)))) 98 x1) ∧ ((jupd M 118 (agF (M 98 x1) (M 99 x1) x3 0) ((M 118 (agF (M 98 x1) (M 99 x1) x3 0)) + (x2 * (M 117 x3)))) 98 x1) ≤ 9)) (s9 : x3 ≤ 99 → 0 ≤ (agF ((jupd M 118 (agF (M 98 x1) (M 99 x1) x3 0) ((M 118 (agF (M 98 x1) (M 99 x1) x3 0)) + (x2 * (M 117 x3)))) 98 x1) ((jupd M 118 (agF (M 98 x1) (M 99 x1) x3 0) ((M 118 (agF (M 98 x1) (M 99 x1) x3 0)) + (x2 * (M 117 x3)))) 99 x1) x3 2)) (s10 : x3 ≤ 99 → (agF ((jupd M 118 (agF (M 98 x1) (M 99 x1) x3 0) ((M 118 (agF (M 98 x1) (M 99 x1) x3 0)) + (x2 * (M 117 x3)))) 98 x1) ((jupd M 118 (agF (M 98 x1) (M 99 x1) x3 0) ((M 118 (agF (M 98 x1) (M 99 x1) x3 0)) + (x2 * (M 117 x3)))) 99 x1) x3 2) < 100) (s11 : x3 ≤ 99 → jInL (10 - x2)) (s12 : x3 ≤ 99 → jInL ((10 - x2) * ((jupd M 118 (agF (M 98 x1) (M 99 x1) x3 0) ((M 118 (agF (M 98 x1) (M 99 x1) x3 0)) + (x2 * (M 117 x3)))) 117 x3))) (s13 : x3 ≤ 99 → jInL (((jupd M 118 (agF (M 98 x1) (M 99 x1) x3 0) ((M 118 (agF (M 98 x1) (M 99 x1) x3 0)) + (x2 * (M 117 x3)))) 118 (agF ((jupd M 118 (agF (M 98 x1) (M 99 x1) x3 0) ((M 118 (agF (M 98 x1) (M 99 x1) x3 0)) + (x2 * (M 117 x3)))) 98 x1) ((jupd M 118 (agF (M 98 x1) (M 99 x1) x3 0) ((M 118 (agF (M 98 x1) (M 99 x1) x3 0)) + (x2 * (M 117 x3)))) 99 x1) x3 2)) + ((10 - x2) * ((jupd M 118 (agF (M 98 x1) (M 99 x1) x3 0) ((M 118 (agF (M 98 x1) (M 99 x1) x3 0)) + (x2 * (M 117 x3)))) 117 x3)))) (s14 : x3 ≤ 99 → jIn (x3 + 1)) (k1 : 99 < x3 → J l z X (d + 1) mX10_wormyDay (0, 0) 89 [jR 96, jI x1, jI x2, jI 0] [] (jG, M) Q) (k2 : x3 ≤ 99 → J l z X (d + 1) mX10_wormyDay (0, 0) 23 [jR 96, jI x1, jI x2, jI (x3 + 1)] [] (jG, (jupd (jupd M 118 (agF (M 98 x1) (M 99 x1) x3 0) ((M 118 (agF (M 98 x1) (M 99 x1) x3 0)) + (x2 * (M 117 x3)))) 118 (agF ((jupd M 118 (agF (M 98 x1) (M 99 x1) x3 0) ((M 118 (agF (M 98 x1) (M 99 x1) x3 0)) + (x2 * (M 117 x3)))) 98 x1) ((jupd M 118 (agF (M 98 x1) (M 99 x1) x3 0) ((M 118 (agF (M 98 x1) (M 99 x1) x3 0)) + (x2 * (M 117 x3)))) 99 x1) x3 2) (((jupd M 118 (agF (M 98 x1) (M 99 x1) x3 0) ((M 118 (agF (M 98 x1) (M 99 x1) x3 0)) + (x2 * (M 117 x3)))) 118 (agF ((jupd M 118 (agF (M 98 x1) (M 99 x1) x3 0) ((M 118 (agF (M 98 x1) (M 99 x1) x3 0)) + (x2 * (M 117 x3)))) 98 x1) ((jupd M 118 (agF (M 98 x1) (M 99 x1) x3 0) ((M 118 (agF (M 98 x1) (M 99 x1) x3 0)) + (x2 * (M 117 x3)))) 99 x1) x3 2)) + ((10 - x2) * ((jupd M 118 (agF (M 98 x1) (M 99 x1) x3 0) ((M 118 (agF (M 98 x1) (M 99 x1) x3 0)) + (x2 * (M 117 x3)))) 117 x3))))) Q) : J l z X (d + 1) mX10_wormyDay (0, 0) 23 [jR 96, jI x1, jI x2, jI x3] [] (jG, M) Q :=
  (J_iload_n dX10_wormyDay_23 rfl (J_bipush dX10_wormyDay_24 jc_99 jb_99 (J_icmp_gt dX10_wormyDay_26 (tgt := 87) (by decide) (fun c1 => (J_iconst dX10_wormyDay_87 jc_0 (J_istore_n dX10_wormyDay_88 (Nat.le_of_ble_eq_true rfl) (k1 c1)))) (fun c1 => (J_aload_n dX10_wormyDay_29 rfl (J_getR (k := 33) jcl_X10 dX10_wormyDay_30 wf_X10_75 g_96 (Nat.le_of_ble_eq_true rfl) rfl rfl (J_aload_n dX10_wormyDay_33 rfl (J_iload_n dX10_wormyDay_34 rfl (J_iload_n dX10_wormyDay_35 rfl (J_iconst dX10_wormyDay_36 jc_0 (J_callV (a1 := (0, 0)) (a2 := (0, 0)) (mm' := mX10_lookBehind) (S := [jR 118]) [jI x1, jI x3, jI 0] md_X10_lookBehind im_X10_lookBehind se_X10_lookBehind dX10_wormyDay_37 wm_X10_147 jcl_X10.1 rfl g_96 rfl rfl (Nat.le_of_ble_eq_true rfl) (Nat.le_of_ble_eq_true rfl) rfl (c_X10_lookBehind  (s1 c1) (J_dup2_RI dX10_wormyDay_40 (J_lald dX10_wormyDay_41 g_118 (s2 c1) (s3 c1) (J_iload_n dX10_wormyDay_42 rfl (J_i2l dX10_wormyDay_43 (J_aload_n dX10_wormyDay_44 rfl (J_getR (k := 32) jcl_X10 dX10_wormyDay_45 wf_X10_71 g_96 (Nat.le_of_ble_eq_true rfl) rfl rfl (J_iload_n dX10_wormyDay_48 rfl (J_lald dX10_wormyDay_49 g_117 (s4 c1) (s5 c1) (J_lmul dX10_wormyDay_50 (s6 c1) (J_ladd dX10_wormyDay_51 (s7 c1) (J_last dX10_wormyDay_52 g_118 (s2 c1) (s3 c1) (J_aload_n dX10_wormyDay_53 rfl (J_getR (k := 33) jcl_X10 dX10_wormyDay_54 wf_X10_75 g_96 (Nat.le_of_ble_eq_true rfl) rfl rfl (J_aload_n dX10_wormyDay_57 rfl (J_iload_n dX10_wormyDay_58 rfl (J_iload_n dX10_wormyDay_59 rfl (J_iconst dX10_wormyDay_60 jc_2 (J_callV (a1 := (0, 0)) (a2 := (0, 0)) (mm' := mX10_lookBehind) (S := [jR 118]) [jI x1, jI x3, jI 2] md_X10_lookBehind im_X10_lookBehind se_X10_lookBehind dX10_wormyDay_61 wm_X10_147 jcl_X10.1 rfl g_96 rfl rfl (Nat.le_of_ble_eq_true rfl) (Nat.le_of_ble_eq_true rfl) rfl (c_X10_lookBehind  (s8 c1) (J_dup2_RI dX10_wormyDay_64 (J_lald dX10_wormyDay_65 g_118 (s9 c1) (s10 c1) (J_ldc2 dX10_wormyDay_66 (lw_X10_274) lcl_X10_274 rfl (J_iload_n dX10_wormyDay_69 rfl (J_i2l dX10_wormyDay_70 (J_lsub dX10_wormyDay_71 (s11 c1) (J_aload_n dX10_wormyDay_72 rfl (J_getR (k := 32) jcl_X10 dX10_wormyDay_73 wf_X10_71 g_96 (Nat.le_of_ble_eq_true rfl) rfl rfl (J_iload_n dX10_wormyDay_76 rfl (J_lald dX10_wormyDay_77 g_117 (s4 c1) (s5 c1) (J_lmul dX10_wormyDay_78 (s12 c1) (J_ladd dX10_wormyDay_79 (s13 c1) (J_last dX10_wormyDay_80 g_118 (s9 c1) (s10 c1) (J_iinc dX10_wormyDay_81 rfl jc_1 (s14 c1) (J_goto dX10_wormyDay_84 (tgt := 23) (by decide) (k2 c1)))))))))))))))))))))))))))))))))))))))))))))))
theorem b_X10_wormyDay_89 {l : Launch} {z d : Nat} {X : jX} {M : Nat → Int → Int} {Q : Option jV → jM → Prop} {x1 : Int} {x2 : Int} {x3 : Int}  (s1 : x3 ≤ 99 → 0 ≤ x3) (s2 : x3 ≤ 99 → x3 < 100) (s3 : x3 ≤ 99 → jIn (x3 + 1)) (k1 : 99 < x3 → Q none (jG, M)) (k2 : x3 ≤ 99 → J l z X (d + 1) mX10_wormyDay (0, 0) 89 [jR 96, jI x1, jI x2, jI (x3 + 1)] [] (jG, (jupd M 117 x3 (M 118 x3))) Q) : J l z X (d + 1) mX10_wormyDay (0, 0) 89 [jR 96, jI x1, jI x2, jI x3] [] (jG, M) Q :=
  (J_iload_n dX10_wormyDay_89 rfl (J_bipush dX10_wormyDay_90 jc_99 jb_99 (J_icmp_gt dX10_wormyDay_92 (tgt := 113) (by decide) (fun c1 => (J_vret dX10_wormyDay_113 rfl (k1 c1))) (fun c1 => (J_aload_n dX10_wormyDay_95 rfl (J_getR (k := 32) jcl_X10 dX10_wormyDay_96 wf_X10_71 g_96 (Nat.le_of_ble_eq_true rfl) rfl rfl (J_iload_n dX10_wormyDay_99 rfl (J_aload_n dX10_wormyDay_100 rfl (J_getR (k := 33) jcl_X10 dX10_wormyDay_101 wf_X10_75 g_96 (Nat.le_of_ble_eq_true rfl) rfl rfl (J_iload_n dX10_wormyDay_104 rfl (J_lald dX10_wormyDay_105 g_118 (s1 c1) (s2 c1) (J_last dX10_wormyDay_106 g_117 (s1 c1) (s2 c1) (J_iinc dX10_wormyDay_107 rfl jc_1 (s3 c1) (J_goto dX10_wormyDay_110 (tgt := 89) (by decide) (k2 c1)))))))))))))))
theorem b_X10_worms_0 {l : Launch} {z d : Nat} {X : jX} {M : Nat → Int → Int} {Q : Option jV → jM → Prop} {x1 : Int} {x2 : Int} {x3 : Int} {x4 : Int} {x5 : Int}   (k1 : hasB (M 96 0) x1 = true → 0 ≤ x2 ∧ x2 ≤ 6 → 0 ≤ x3 ∧ x3 ≤ 10 → (-1) ≤ x4 ∧ x4 ≤ 99 → 0 ≤ x5 ∧ x5 ≤ 1 → J l z X (d + 2) mX10_worms (0, 0) 69 [jR 96, jI x1, jI x2, jI x3, jI x4, jI x5, jI 0, jN, jN, jN, jN] [] (jG, M) Q) (k2 : hasB (M 96 0) x1 = true → 0 ≤ x2 ∧ x2 ≤ 6 → 0 ≤ x3 ∧ x3 ≤ 10 → (-1) ≤ x4 ∧ x4 ≤ 99 → ¬ (0 ≤ x5 ∧ x5 ≤ 1) → Q (some (jL (-1000000000000000002))) (jG, M)) (k3 : hasB (M 96 0) x1 = true → 0 ≤ x2 ∧ x2 ≤ 6 → 0 ≤ x3 ∧ x3 ≤ 10 → ¬ ((-1) ≤ x4 ∧ x4 ≤ 99) → Q (some (jL (-1000000000000000002))) (jG, M)) (k4 : hasB (M 96 0) x1 = true → 0 ≤ x2 ∧ x2 ≤ 6 → ¬ (0 ≤ x3 ∧ x3 ≤ 10) → Q (some (jL (-1000000000000000002))) (jG, M)) (k5 : hasB (M 96 0) x1 = true → ¬ (0 ≤ x2 ∧ x2 ≤ 6) → Q (some (jL (-1000000000000000002))) (jG, M)) (k6 : hasB (M 96 0) x1 = false → Q (some (jL (-1000000000000000001))) (jG, M)) : J l z X (d + 2) mX10_worms (0, 0) 0 [jR 96, jI x1, jI x2, jI x3, jI x4, jI x5, jN, jN, jN, jN, jN] [] (jG, M) Q :=
  (J_aload_n dX10_worms_0 rfl (J_iload_n dX10_worms_1 rfl (J_callV (a1 := (0, 0)) (a2 := (0, 0)) (mm' := mX10_isOne) (S := []) [jI x1] md_X10_isOne im_X10_isOne se_X10_isOne dX10_worms_2 wm_X10_109 jcl_X10.1 rfl g_96 rfl rfl (Nat.le_of_ble_eq_true rfl) (Nat.le_of_ble_eq_true rfl) rfl (c_X10_isOne   (fun c1 => (J_if_ne dX10_worms_5 (tgt := 12) (by decide) (fun _ => (J_iload_n dX10_worms_12 rfl (J_i2l dX10_worms_13 (J_lconst dX10_worms_14 jlc_0 jlv_0 (J_ldc2 dX10_worms_15 (lw_X10_237) lcl_X10_237 rfl (J_callS (a1 := (0, 0)) (a2 := (0, 0)) (mm' := mX10_in) (S := []) [jL x2, jL 0, jL 6] md_X10_in is_X10_in dX10_worms_18 wm_X10_94 rfl rfl (Nat.le_of_ble_eq_true rfl) (Nat.le_of_ble_eq_true rfl) rfl (c_X10_in   (fun c2 => (J_if_eq dX10_worms_21 (tgt := 62) (by decide) (fun c => absurd c (by decide)) (fun _ => (J_iload_n dX10_worms_24 rfl (J_i2l dX10_worms_25 (J_lconst dX10_worms_26 jlc_0 jlv_0 (J_ldc2 dX10_worms_27 (lw_X10_274) lcl_X10_274 rfl (J_callS (a1 := (0, 0)) (a2 := (0, 0)) (mm' := mX10_in) (S := []) [jL x3, jL 0, jL 10] md_X10_in is_X10_in dX10_worms_30 wm_X10_94 rfl rfl (Nat.le_of_ble_eq_true rfl) (Nat.le_of_ble_eq_true rfl) rfl (c_X10_in   (fun c3 => (J_if_eq dX10_worms_33 (tgt := 62) (by decide) (fun c => absurd c (by decide)) (fun _ => (J_iload dX10_worms_36 rfl (J_i2l dX10_worms_38 (J_ldc2 dX10_worms_39 (lw_X10_278) lcl_X10_278 rfl (J_ldc2 dX10_worms_42 (lw_X10_101) lcl_X10_101 rfl (J_callS (a1 := (0, 0)) (a2 := (0, 0)) (mm' := mX10_in) (S := []) [jL x4, jL (-1), jL 99] md_X10_in is_X10_in dX10_worms_45 wm_X10_94 rfl rfl (Nat.le_of_ble_eq_true rfl) (Nat.le_of_ble_eq_true rfl) rfl (c_X10_in   (fun c4 => (J_if_eq dX10_worms_48 (tgt := 62) (by decide) (fun c => absurd c (by decide)) (fun _ => (J_iload dX10_worms_51 rfl (J_i2l dX10_worms_53 (J_lconst dX10_worms_54 jlc_0 jlv_0 (J_lconst dX10_worms_55 jlc_1 jlv_1 (J_callS (a1 := (0, 0)) (a2 := (0, 0)) (mm' := mX10_in) (S := []) [jL x5, jL 0, jL 1] md_X10_in is_X10_in dX10_worms_56 wm_X10_94 rfl rfl (Nat.le_of_ble_eq_true rfl) (Nat.le_of_ble_eq_true rfl) rfl (c_X10_in   (fun c5 => (J_if_ne dX10_worms_59 (tgt := 66) (by decide) (fun _ => (J_iconst dX10_worms_66 jc_0 (J_istore dX10_worms_67 (Nat.le_of_ble_eq_true rfl) (k1 c1 c2 c3 c4 c5)))) (fun c => absurd c (by decide)))) (fun c5 => (J_if_ne dX10_worms_59 (tgt := 66) (by decide) (fun c => absurd c (by decide)) (fun _ => (J_ldc2 dX10_worms_62 (lw_X10_280) lcl_X10_280 rfl (J_lret dX10_worms_65 rfl (k2 c1 c2 c3 c4 c5))))))))))))))) (fun c4 => (J_if_eq dX10_worms_48 (tgt := 62) (by decide) (fun _ => (J_ldc2 dX10_worms_62 (lw_X10_280) lcl_X10_280 rfl (J_lret dX10_worms_65 rfl (k3 c1 c2 c3 c4)))) (fun c => absurd c (by decide))))))))))))) (fun c3 => (J_if_eq dX10_worms_33 (tgt := 62) (by decide) (fun _ => (J_ldc2 dX10_worms_62 (lw_X10_280) lcl_X10_280 rfl (J_lret dX10_worms_65 rfl (k4 c1 c2 c3)))) (fun c => absurd c (by decide))))))))))))) (fun c2 => (J_if_eq dX10_worms_21 (tgt := 62) (by decide) (fun _ => (J_ldc2 dX10_worms_62 (lw_X10_280) lcl_X10_280 rfl (J_lret dX10_worms_65 rfl (k5 c1 c2)))) (fun c => absurd c (by decide))))))))))) (fun c => absurd c (by decide)))) (fun c1 => (J_if_ne dX10_worms_5 (tgt := 12) (by decide) (fun c => absurd c (by decide)) (fun _ => (J_ldc2 dX10_worms_8 (lw_X10_276) lcl_X10_276 rfl (J_lret dX10_worms_11 rfl (k6 c1))))))))))
theorem b_X10_worms_69 {l : Launch} {z d : Nat} {X : jX} {M : Nat → Int → Int} {Q : Option jV → jM → Prop} {x1 : Int} {x2 : Int} {x3 : Int} {x4 : Int} {x5 : Int} {x6 : Int}  (s1 : x6 ≤ 99 → 0 ≤ x1) (s2 : x6 ≤ 99 → x1 < 6) (k1 : 99 < x6 → J l z X (d + 2) mX10_worms (0, 0) 111 [jR 96, jI x1, jI x2, jI x3, jI x4, jI x5, jL 1, jN, jI 0, jN, jN] [] (jG, M) Q) (k2 : x6 ≤ 99 → x6 ≠ (M 97 x1) → J l z X (d + 2) mX10_worms (0, 0) 98 [jR 96, jI x1, jI x2, jI x3, jI x4, jI x5, jI x6, jN, jN, jN, jN] [jL 0, jI x6, jR 117] (jG, M) Q) (k3 : x6 ≤ 99 → x6 = (M 97 x1) → J l z X (d + 2) mX10_worms (0, 0) 98 [jR 96, jI x1, jI x2, jI x3, jI x4, jI x5, jI x6, jN, jN, jN, jN] [jL 1, jI x6, jR 117] (jG, M) Q) : J l z X (d + 2) mX10_worms (0, 0) 69 [jR 96, jI x1, jI x2, jI x3, jI x4, jI x5, jI x6, jN, jN, jN, jN] [] (jG, M) Q :=
  (J_iload dX10_worms_69 rfl (J_bipush dX10_worms_71 jc_99 jb_99 (J_icmp_gt dX10_worms_73 (tgt := 105) (by decide) (fun c1 => (J_lconst dX10_worms_105 jlc_1 jlv_1 (J_lstore dX10_worms_106 (Nat.le_of_ble_eq_true rfl) (J_iconst dX10_worms_108 jc_0 (J_istore dX10_worms_109 (Nat.le_of_ble_eq_true rfl) (k1 c1)))))) (fun c1 => (J_aload_n dX10_worms_76 rfl (J_getR (k := 32) jcl_X10 dX10_worms_77 wf_X10_71 g_96 (Nat.le_of_ble_eq_true rfl) rfl rfl (J_iload dX10_worms_80 rfl (J_iload dX10_worms_82 rfl (J_aload_n dX10_worms_84 rfl (J_getR (k := 4) jcl_X10 dX10_worms_85 wf_X10_7 g_96 (Nat.le_of_ble_eq_true rfl) rfl rfl (J_iload_n dX10_worms_88 rfl (J_iald dX10_worms_89 g_97 (s1 c1) (s2 c1) (J_icmp_ne dX10_worms_90 (tgt := 97) (by decide) (fun c2 => (J_lconst dX10_worms_97 jlc_0 jlv_0 (k2 c1 c2))) (fun c2 => (J_lconst dX10_worms_93 jlc_1 jlv_1 (J_goto dX10_worms_94 (tgt := 98) (by decide) (k3 c1 c2)))))))))))))))))
theorem b_X10_worms_98 {l : Launch} {z d : Nat} {X : jX} {M : Nat → Int → Int} {Q : Option jV → jM → Prop} {x1 : Int} {x2 : Int} {x3 : Int} {x4 : Int} {x5 : Int} {x6 : Int} {t1 : Int} {t2 : Int}  (s1 : 0 ≤ t1) (s2 : t1 < 100) (s3 : jIn (x6 + 1)) (k1 : J l z X (d + 2) mX10_worms (0, 0) 69 [jR 96, jI x1, jI x2, jI x3, jI x4, jI x5, jI (x6 + 1), jN, jN, jN, jN] [] (jG, (jupd M 117 t1 t2)) Q) : J l z X (d + 2) mX10_worms (0, 0) 98 [jR 96, jI x1, jI x2, jI x3, jI x4, jI x5, jI x6, jN, jN, jN, jN] [jL t2, jI t1, jR 117] (jG, M) Q :=
  (J_last dX10_worms_98 g_117 s1 s2 (J_iinc dX10_worms_99 rfl jc_1 s3 (J_goto dX10_worms_102 (tgt := 69) (by decide) k1)))
theorem b_X10_worms_111 {l : Launch} {z d : Nat} {X : jX} {M : Nat → Int → Int} {Q : Option jV → jM → Prop} {x1 : Int} {x2 : Int} {x3 : Int} {x4 : Int} {x5 : Int} {x6 : Int} {x8 : Int}   (k1 : x2 ≤ x8 → J l z X (d + 2) mX10_worms (0, 0) 143 [jR 96, jI x1, jI x2, jI x3, jI x4, jI x5, jL x6, jN, jL 0, jN, jI 0] [] (jG, M) Q) (k2 : x8 < x2 → J l z X (d + 1) mX10_wormyDay (0, 0) 0 [jR 96, jI x1, jI x3, jN] [] (jG, M) (fun r μ => J l z X (d + 2) mX10_worms (0, 0) 123 [jR 96, jI x1, jI x2, jI x3, jI x4, jI x5, jL x6, jN, jI x8, jN, jN] (r.toList ++ []) μ Q)) : J l z X (d + 2) mX10_worms (0, 0) 111 [jR 96, jI x1, jI x2, jI x3, jI x4, jI x5, jL x6, jN, jI x8, jN, jN] [] (jG, M) Q :=
  (J_iload dX10_worms_111 rfl (J_iload_n dX10_worms_113 rfl (J_icmp_ge dX10_worms_114 (tgt := 137) (by decide) (fun c1 => (J_lconst dX10_worms_137 jlc_0 jlv_0 (J_lstore dX10_worms_138 (Nat.le_of_ble_eq_true rfl) (J_iconst dX10_worms_140 jc_0 (J_istore dX10_worms_141 (Nat.le_of_ble_eq_true rfl) (k1 c1)))))) (fun c1 => (J_aload_n dX10_worms_117 rfl (J_iload_n dX10_worms_118 rfl (J_iload_n dX10_worms_119 rfl (J_callV (a1 := (0, 0)) (a2 := (0, 0)) (mm' := mX10_wormyDay) (S := []) [jI x1, jI x3] md_X10_wormyDay im_X10_wormyDay se_X10_wormyDay dX10_worms_120 wm_X10_282 jcl_X10.1 rfl g_96 rfl rfl (Nat.le_of_ble_eq_true rfl) (Nat.le_of_ble_eq_true rfl) rfl (k2 c1)))))))))
theorem b_X10_worms_123 {l : Launch} {z d : Nat} {X : jX} {M : Nat → Int → Int} {Q : Option jV → jM → Prop} {x1 : Int} {x2 : Int} {x3 : Int} {x4 : Int} {x5 : Int} {x6 : Int} {x8 : Int}  (s1 : jInL (x6 * 10)) (s2 : jIn (x8 + 1)) (k1 : J l z X (d + 2) mX10_worms (0, 0) 111 [jR 96, jI x1, jI x2, jI x3, jI x4, jI x5, jL (x6 * 10), jN, jI (x8 + 1), jN, jN] [] (jG, M) Q) : J l z X (d + 2) mX10_worms (0, 0) 123 [jR 96, jI x1, jI x2, jI x3, jI x4, jI x5, jL x6, jN, jI x8, jN, jN] [] (jG, M) Q :=
  (J_lload dX10_worms_123 rfl (J_ldc2 dX10_worms_125 (lw_X10_274) lcl_X10_274 rfl (J_lmul dX10_worms_128 s1 (J_lstore dX10_worms_129 (Nat.le_of_ble_eq_true rfl) (J_iinc dX10_worms_131 rfl jc_1 s2 (J_goto dX10_worms_134 (tgt := 111) (by decide) k1))))))
theorem b_X10_worms_143 {l : Launch} {z d : Nat} {X : jX} {M : Nat → Int → Int} {Q : Option jV → jM → Prop} {x1 : Int} {x2 : Int} {x3 : Int} {x4 : Int} {x5 : Int} {x6 : Int} {x8 : Int} {x10 : Int}  (s1 : x10 ≤ 99 → 0 ≤ x4 → x10 ≤ x4 → 0 ≤ x10) (s2 : x10 ≤ 99 → 0 ≤ x4 → x10 ≤ x4 → x10 < 100) (s3 : x10 ≤ 99 → x4 < 0 → 0 ≤ x10) (s4 : x10 ≤ 99 → x4 < 0 → x10 < 100) (s5 : x10 ≤ 99 → x4 < 0 → jInL (x10 * (M 117 x10))) (k1 : 99 < x10 → J l z X (d + 1) mX10_lowest (0, 0) 0 [jL x8, jN, jL x6, jN, jI x5, jN, jN, jN, jN, jN, jN] [] (jG, M) (fun r μ => J l z X (d + 2) mX10_worms (0, 0) 207 [jR 96, jI x1, jI x2, jI x3, jI x4, jI x5, jL x6, jN, jL x8, jN, jI x10] (r.toList ++ []) μ Q)) (k2 : x10 ≤ 99 → 0 ≤ x4 → x4 < x10 → J l z X (d + 2) mX10_worms (0, 0) 189 [jR 96, jI x1, jI x2, jI x3, jI x4, jI x5, jL x6, jN, jL x8, jN, jI x10] [jL 0, jL x8] (jG, M) Q) (k3 : x10 ≤ 99 → 0 ≤ x4 → x10 ≤ x4 → J l z X (d + 2) mX10_worms (0, 0) 189 [jR 96, jI x1, jI x2, jI x3, jI x4, jI x5, jL x6, jN, jL x8, jN, jI x10] [jL (M 117 x10), jL x8] (jG, M) Q) (k4 : x10 ≤ 99 → x4 < 0 → J l z X (d + 2) mX10_worms (0, 0) 189 [jR 96, jI x1, jI x2, jI x3, jI x4, jI x5, jL x6, jN, jL x8, jN, jI x10] [jL (x10 * (M 117 x10)), jL x8] (jG, M) Q) : J l z X (d + 2) mX10_worms (0, 0) 143 [jR 96, jI x1, jI x2, jI x3, jI x4, jI x5, jL x6, jN, jL x8, jN, jI x10] [] (jG, M) Q :=
  (J_iload dX10_worms_143 rfl (J_bipush dX10_worms_145 jc_99 jb_99 (J_icmp_gt dX10_worms_147 (tgt := 198) (by decide) (fun c1 => (J_lload dX10_worms_198 rfl (J_lload dX10_worms_200 rfl (J_iload dX10_worms_202 rfl (J_callS (a1 := (0, 0)) (a2 := (0, 0)) (mm' := mX10_lowest) (S := []) [jL x8, jL x6, jI x5] md_X10_lowest is_X10_lowest dX10_worms_204 wm_X10_285 rfl rfl (Nat.le_of_ble_eq_true rfl) (Nat.le_of_ble_eq_true rfl) rfl (k1 c1)))))) (fun c1 => (J_lload dX10_worms_150 rfl (J_iload dX10_worms_152 rfl (J_if_ge dX10_worms_154 (tgt := 171) (by decide) (fun c2 => (J_iload dX10_worms_171 rfl (J_iload dX10_worms_173 rfl (J_icmp_gt dX10_worms_175 (tgt := 188) (by decide) (fun c3 => (J_lconst dX10_worms_188 jlc_0 jlv_0 (k2 c1 c2 c3))) (fun c3 => (J_aload_n dX10_worms_178 rfl (J_getR (k := 32) jcl_X10 dX10_worms_179 wf_X10_71 g_96 (Nat.le_of_ble_eq_true rfl) rfl rfl (J_iload dX10_worms_182 rfl (J_lald dX10_worms_184 g_117 (s1 c1 c2 c3) (s2 c1 c2 c3) (J_goto dX10_worms_185 (tgt := 189) (by decide) (k3 c1 c2 c3))))))))))) (fun c2 => (J_iload dX10_worms_157 rfl (J_i2l dX10_worms_159 (J_aload_n dX10_worms_160 rfl (J_getR (k := 32) jcl_X10 dX10_worms_161 wf_X10_71 g_96 (Nat.le_of_ble_eq_true rfl) rfl rfl (J_iload dX10_worms_164 rfl (J_lald dX10_worms_166 g_117 (s3 c1 c2) (s4 c1 c2) (J_lmul dX10_worms_167 (s5 c1 c2) (J_goto dX10_worms_168 (tgt := 189) (by decide) (k4 c1 c2)))))))))))))))))
theorem b_X10_worms_189 {l : Launch} {z d : Nat} {X : jX} {M : Nat → Int → Int} {Q : Option jV → jM → Prop} {x1 : Int} {x2 : Int} {x3 : Int} {x4 : Int} {x5 : Int} {x6 : Int} {x8 : Int} {x10 : Int} {t0 : Int} {t1 : Int}  (s1 : jInL (t0 + t1)) (s2 : jIn (x10 + 1)) (k1 : J l z X (d + 2) mX10_worms (0, 0) 143 [jR 96, jI x1, jI x2, jI x3, jI x4, jI x5, jL x6, jN, jL (t0 + t1), jN, jI (x10 + 1)] [] (jG, M) Q) : J l z X (d + 2) mX10_worms (0, 0) 189 [jR 96, jI x1, jI x2, jI x3, jI x4, jI x5, jL x6, jN, jL x8, jN, jI x10] [jL t1, jL t0] (jG, M) Q :=
  (J_ladd dX10_worms_189 s1 (J_lstore dX10_worms_190 (Nat.le_of_ble_eq_true rfl) (J_iinc dX10_worms_192 rfl jc_1 s2 (J_goto dX10_worms_195 (tgt := 143) (by decide) k1))))
theorem b_X10_worms_207 {l : Launch} {z d : Nat} {X : jX} {M : Nat → Int → Int} {Q : Option jV → jM → Prop} {x1 : Int} {x2 : Int} {x3 : Int} {x4 : Int} {x5 : Int} {x6 : Int} {x8 : Int} {x10 : Int} {t0 : Int}   (k1 : Q (some (jL t0)) (jG, M)) : J l z X (d + 2) mX10_worms (0, 0) 207 [jR 96, jI x1, jI x2, jI x3, jI x4, jI x5, jL x6, jN, jL x8, jN, jI x10] [jL t0] (jG, M) Q :=
  (J_lret dX10_worms_207 rfl k1)
theorem b_X10_year_0 {l : Launch} {z d : Nat} {X : jX} {M : Nat → Int → Int} {Q : Option jV → jM → Prop} {x1 : Int} {x2 : Int} {x3 : Int}   (k1 : 0 ≤ x1 ∧ x1 ≤ 9999 → 1 ≤ x2 ∧ x2 ≤ 99 → 0 ≤ x3 ∧ x3 ≤ 2 → J l z X (d + 4) mX10_keepNow (0, 0) 0 [jR 96, jN] [] (jG, M) (fun r μ => J l z X (d + 5) mX10_year (0, 0) 43 [jR 96, jI x1, jI x2, jI x3, jN, jN, jN, jN, jN] (r.toList ++ []) μ Q)) (k2 : 0 ≤ x1 ∧ x1 ≤ 9999 → 1 ≤ x2 ∧ x2 ≤ 99 → ¬ (0 ≤ x3 ∧ x3 ≤ 2) → Q (some (jI (-2))) (jG, M)) (k3 : 0 ≤ x1 ∧ x1 ≤ 9999 → ¬ (1 ≤ x2 ∧ x2 ≤ 99) → Q (some (jI (-2))) (jG, M)) (k4 : ¬ (0 ≤ x1 ∧ x1 ≤ 9999) → Q (some (jI (-2))) (jG, M)) : J l z X (d + 5) mX10_year (0, 0) 0 [jR 96, jI x1, jI x2, jI x3, jN, jN, jN, jN, jN] [] (jG, M) Q :=
  (J_iload_n dX10_year_0 rfl (J_i2l dX10_year_1 (J_lconst dX10_year_2 jlc_0 jlv_0 (J_ldc2 dX10_year_3 (lw_X10_289) lcl_X10_289 rfl (J_callS (a1 := (0, 0)) (a2 := (0, 0)) (mm' := mX10_in) (S := []) [jL x1, jL 0, jL 9999] md_X10_in is_X10_in dX10_year_6 wm_X10_94 rfl rfl (Nat.le_of_ble_eq_true rfl) (Nat.le_of_ble_eq_true rfl) rfl (c_X10_in   (fun c1 => (J_if_eq dX10_year_9 (tgt := 36) (by decide) (fun c => absurd c (by decide)) (fun _ => (J_iload_n dX10_year_12 rfl (J_i2l dX10_year_13 (J_lconst dX10_year_14 jlc_1 jlv_1 (J_ldc2 dX10_year_15 (lw_X10_101) lcl_X10_101 rfl (J_callS (a1 := (0, 0)) (a2 := (0, 0)) (mm' := mX10_in) (S := []) [jL x2, jL 1, jL 99] md_X10_in is_X10_in dX10_year_18 wm_X10_94 rfl rfl (Nat.le_of_ble_eq_true rfl) (Nat.le_of_ble_eq_true rfl) rfl (c_X10_in   (fun c2 => (J_if_eq dX10_year_21 (tgt := 36) (by decide) (fun c => absurd c (by decide)) (fun _ => (J_iload_n dX10_year_24 rfl (J_i2l dX10_year_25 (J_lconst dX10_year_26 jlc_0 jlv_0 (J_ldc2 dX10_year_27 (lw_X10_113) lcl_X10_113 rfl (J_callS (a1 := (0, 0)) (a2 := (0, 0)) (mm' := mX10_in) (S := []) [jL x3, jL 0, jL 2] md_X10_in is_X10_in dX10_year_30 wm_X10_94 rfl rfl (Nat.le_of_ble_eq_true rfl) (Nat.le_of_ble_eq_true rfl) rfl (c_X10_in   (fun c3 => (J_if_ne dX10_year_33 (tgt := 39) (by decide) (fun _ => (J_aload_n dX10_year_39 rfl (J_callV (a1 := (0, 0)) (a2 := (0, 0)) (mm' := mX10_keepNow) (S := []) [] md_X10_keepNow im_X10_keepNow se_X10_keepNow dX10_year_40 wm_X10_190 jcl_X10.1 rfl g_96 rfl rfl (Nat.le_of_ble_eq_true rfl) (Nat.le_of_ble_eq_true rfl) rfl (k1 c1 c2 c3)))) (fun c => absurd c (by decide)))) (fun c3 => (J_if_ne dX10_year_33 (tgt := 39) (by decide) (fun c => absurd c (by decide)) (fun _ => (J_bipush dX10_year_36 jc_m2 jb_m2 (J_iret dX10_year_38 rfl (k2 c1 c2 c3))))))))))))))) (fun c2 => (J_if_eq dX10_year_21 (tgt := 36) (by decide) (fun _ => (J_bipush dX10_year_36 jc_m2 jb_m2 (J_iret dX10_year_38 rfl (k3 c1 c2)))) (fun c => absurd c (by decide))))))))))))) (fun c1 => (J_if_eq dX10_year_9 (tgt := 36) (by decide) (fun _ => (J_bipush dX10_year_36 jc_m2 jb_m2 (J_iret dX10_year_38 rfl (k4 c1)))) (fun c => absurd c (by decide))))))))))
theorem b_X10_year_43 {l : Launch} {z d : Nat} {X : jX} {M : Nat → Int → Int} {Q : Option jV → jM → Prop} {x1 : Int} {x2 : Int} {x3 : Int}   (k1 : J l z X (d + 4) mX10_beginCount (0, 0) 0 [jR 96] [] (jG, M) (fun r μ => J l z X (d + 5) mX10_year (0, 0) 47 [jR 96, jI x1, jI x2, jI x3, jN, jN, jN, jN, jN] (r.toList ++ []) μ Q)) : J l z X (d + 5) mX10_year (0, 0) 43 [jR 96, jI x1, jI x2, jI x3, jN, jN, jN, jN, jN] [] (jG, M) Q :=
  (J_aload_n dX10_year_43 rfl (J_callV (a1 := (0, 0)) (a2 := (0, 0)) (mm' := mX10_beginCount) (S := []) [] md_X10_beginCount im_X10_beginCount se_X10_beginCount dX10_year_44 wm_X10_174 jcl_X10.1 rfl g_96 rfl rfl (Nat.le_of_ble_eq_true rfl) (Nat.le_of_ble_eq_true rfl) rfl k1))
theorem b_X10_year_47 {l : Launch} {z d : Nat} {X : jX} {M : Nat → Int → Int} {Q : Option jV → jM → Prop} {x1 : Int} {x2 : Int} {x3 : Int}   (k1 : J l z X (d + 5) mX10_year (0, 0) 53 [jR 96, jI x1, jI x2, jI x3, jI x1, jI 0, jN, jN, jN] [] (jG, M) Q) : J l z X (d + 5) mX10_year (0, 0) 47 [jR 96, jI x1, jI x2, jI x3, jN, jN, jN, jN, jN] [] (jG, M) Q :=
  (J_iload_n dX10_year_47 rfl (J_istore dX10_year_48 (Nat.le_of_ble_eq_true rfl) (J_iconst dX10_year_50 jc_0 (J_istore dX10_year_51 (Nat.le_of_ble_eq_true rfl) k1))))
theorem b_X10_year_53 {l : Launch} {z d : Nat} {X : jX} {M : Nat → Int → Int} {Q : Option jV → jM → Prop} {x1 : Int} {x2 : Int} {x3 : Int} {x4 : Int} {x5 : Int}  (s1 : x5 < x2 → jInL (75 * x4)) (s2 : x5 < x2 → jInL ((75 * x4) + 74)) (s3 : x5 < x2 → 0 ≤ ((75 * x4) + 74)) (s4 : x5 < x2 → jIn (((75 * x4) + 74) % 65537)) (s5 : x5 < x2 → 0 ≤ (((75 * x4) + 74) % 65537)) (s6 : x5 < x2 → 0 ≤ ((((75 * x4) + 74) % 65537) / 6)) (k1 : x2 ≤ x5 → J l z X (d + 5) mX10_year (0, 0) 181 [jR 96, jI x1, jI x2, jI x3, jI x4, jI 0, jI 0, jN, jN] [] (jG, M) Q) (k2 : x5 < x2 → 2 ≤ (((((75 * x4) + 74) % 65537) / 6) % 7) → 4 ≤ (((((75 * x4) + 74) % 65537) / 6) % 7) → (((((75 * x4) + 74) % 65537) / 6) % 7) ≠ 4 → (((((75 * x4) + 74) % 65537) / 6) % 7) ≠ 5 → J l z X (d + 5) mX10_year (0, 0) 128 [jR 96, jI x1, jI x2, jI x3, jI (((75 * x4) + 74) % 65537), jI x5, jI (((((75 * x4) + 74) % 65537) / 6) % 7), jN, jN] [jI 4] (jG, M) Q) (k3 : x5 < x2 → 2 ≤ (((((75 * x4) + 74) % 65537) / 6) % 7) → 4 ≤ (((((75 * x4) + 74) % 65537) / 6) % 7) → (((((75 * x4) + 74) % 65537) / 6) % 7) ≠ 4 → (((((75 * x4) + 74) % 65537) / 6) % 7) = 5 → J l z X (d + 5) mX10_year (0, 0) 128 [jR 96, jI x1, jI x2, jI x3, jI (((75 * x4) + 74) % 65537), jI x5, jI (((((75 * x4) + 74) % 65537) / 6) % 7), jN, jN] [jI 5] (jG, M) Q) (k4 : x5 < x2 → 2 ≤ (((((75 * x4) + 74) % 65537) / 6) % 7) → 4 ≤ (((((75 * x4) + 74) % 65537) / 6) % 7) → (((((75 * x4) + 74) % 65537) / 6) % 7) = 4 → J l z X (d + 5) mX10_year (0, 0) 128 [jR 96, jI x1, jI x2, jI x3, jI (((75 * x4) + 74) % 65537), jI x5, jI (((((75 * x4) + 74) % 65537) / 6) % 7), jN, jN] [jI 3] (jG, M) Q) (k5 : x5 < x2 → 2 ≤ (((((75 * x4) + 74) % 65537) / 6) % 7) → (((((75 * x4) + 74) % 65537) / 6) % 7) < 4 → J l z X (d + 5) mX10_year (0, 0) 128 [jR 96, jI x1, jI x2, jI x3, jI (((75 * x4) + 74) % 65537), jI x5, jI (((((75 * x4) + 74) % 65537) / 6) % 7), jN, jN] [jI 1] (jG, M) Q) (k6 : x5 < x2 → (((((75 * x4) + 74) % 65537) / 6) % 7) < 2 → J l z X (d + 5) mX10_year (0, 0) 128 [jR 96, jI x1, jI x2, jI x3, jI (((75 * x4) + 74) % 65537), jI x5, jI (((((75 * x4) + 74) % 65537) / 6) % 7), jN, jN] [jI 0] (jG, M) Q) : J l z X (d + 5) mX10_year (0, 0) 53 [jR 96, jI x1, jI x2, jI x3, jI x4, jI x5, jN, jN, jN] [] (jG, M) Q :=
  (J_iload dX10_year_53 rfl (J_iload_n dX10_year_55 rfl (J_icmp_ge dX10_year_56 (tgt := 175) (by decide) (fun c1 => (J_iconst dX10_year_175 jc_0 (J_istore dX10_year_176 (Nat.le_of_ble_eq_true rfl) (J_iconst dX10_year_178 jc_0 (J_istore dX10_year_179 (Nat.le_of_ble_eq_true rfl) (k1 c1)))))) (fun c1 => (J_ldc2 dX10_year_59 (lw_X10_291) lcl_X10_291 rfl (J_iload dX10_year_62 rfl (J_i2l dX10_year_64 (J_lmul dX10_year_65 (s1 c1) (J_ldc2 dX10_year_66 (lw_X10_293) lcl_X10_293 rfl (J_ladd dX10_year_69 (s2 c1) (J_ldc2 dX10_year_70 (lw_X10_295) lcl_X10_295 rfl (J_lrem dX10_year_73 (s3 c1) (by decide) (J_l2i dX10_year_74 (s4 c1) (J_istore dX10_year_75 (Nat.le_of_ble_eq_true rfl) (J_iload dX10_year_77 rfl (J_bipush dX10_year_79 jc_6 jb_6 (J_idiv dX10_year_81 (s5 c1) (by decide) (J_bipush dX10_year_82 jc_7 jb_7 (J_irem dX10_year_84 (s6 c1) (by decide) (J_istore dX10_year_85 (Nat.le_of_ble_eq_true rfl) (J_iload dX10_year_87 rfl (J_iconst dX10_year_89 jc_2 (J_icmp_ge dX10_year_90 (tgt := 97) (by decide) (fun c2 => (J_iload dX10_year_97 rfl (J_iconst dX10_year_99 jc_4 (J_icmp_ge dX10_year_100 (tgt := 107) (by decide) (fun c3 => (J_iload dX10_year_107 rfl (J_iconst dX10_year_109 jc_4 (J_icmp_ne dX10_year_110 (tgt := 117) (by decide) (fun c4 => (J_iload dX10_year_117 rfl (J_iconst dX10_year_119 jc_5 (J_icmp_ne dX10_year_120 (tgt := 127) (by decide) (fun c5 => (J_iconst dX10_year_127 jc_4 (k2 c1 c2 c3 c4 c5))) (fun c5 => (J_iconst dX10_year_123 jc_5 (J_goto dX10_year_124 (tgt := 128) (by decide) (k3 c1 c2 c3 c4 c5)))))))) (fun c4 => (J_iconst dX10_year_113 jc_3 (J_goto dX10_year_114 (tgt := 128) (by decide) (k4 c1 c2 c3 c4)))))))) (fun c3 => (J_iconst dX10_year_103 jc_1 (J_goto dX10_year_104 (tgt := 128) (by decide) (k5 c1 c2 c3)))))))) (fun c2 => (J_iconst dX10_year_93 jc_0 (J_goto dX10_year_94 (tgt := 128) (by decide) (k6 c1 c2)))))))))))))))))))))))))))
theorem b_X10_year_128 {l : Launch} {z d : Nat} {X : jX} {M : Nat → Int → Int} {Q : Option jV → jM → Prop} {x1 : Int} {x2 : Int} {x3 : Int} {x4 : Int} {x5 : Int} {x6 : Int} {t0 : Int}  (s1 : 0 ≤ x4) (s2 : 0 ≤ (x4 / 42)) (k1 : J l z X (d + 4) mX10_whyNot (0, 0) 0 [jR 96, jI t0, jI (x4 % 6), jI ((x4 / 42) % 6), jN] [] (jG, M) (fun r μ => J l z X (d + 5) mX10_year (0, 0) 153 [jR 96, jI x1, jI x2, jI x3, jI x4, jI x5, jI x6, jI t0, jI ((x4 / 42) % 6)] (r.toList ++ []) μ Q)) : J l z X (d + 5) mX10_year (0, 0) 128 [jR 96, jI x1, jI x2, jI x3, jI x4, jI x5, jI x6, jN, jN] [jI t0] (jG, M) Q :=
  (J_istore dX10_year_128 (Nat.le_of_ble_eq_true rfl) (J_iload dX10_year_130 rfl (J_bipush dX10_year_132 jc_42 jb_42 (J_idiv dX10_year_134 s1 (by decide) (J_bipush dX10_year_135 jc_6 jb_6 (J_irem dX10_year_137 s2 (by decide) (J_istore dX10_year_138 (Nat.le_of_ble_eq_true rfl) (J_aload_n dX10_year_140 rfl (J_iload dX10_year_141 rfl (J_iload dX10_year_143 rfl (J_bipush dX10_year_145 jc_6 jb_6 (J_irem dX10_year_147 s1 (by decide) (J_iload dX10_year_148 rfl (J_callV (a1 := (0, 0)) (a2 := (0, 0)) (mm' := mX10_whyNot) (S := []) [jI t0, jI (x4 % 6), jI ((x4 / 42) % 6)] md_X10_whyNot im_X10_whyNot se_X10_whyNot dX10_year_150 wm_X10_183 jcl_X10.1 rfl g_96 rfl rfl (Nat.le_of_ble_eq_true rfl) (Nat.le_of_ble_eq_true rfl) rfl k1))))))))))))))
theorem b_X10_year_153 {l : Launch} {z d : Nat} {X : jX} {M : Nat → Int → Int} {Q : Option jV → jM → Prop} {x1 : Int} {x2 : Int} {x3 : Int} {x4 : Int} {x5 : Int} {x6 : Int} {x7 : Int} {x8 : Int} {t0 : Int}  (s1 : t0 = 0 → 0 ≤ x4) (k1 : t0 ≠ 0 → J l z X (d + 5) mX10_year (0, 0) 169 [jR 96, jI x1, jI x2, jI x3, jI x4, jI x5, jI x6, jI x7, jI x8] [] (jG, M) Q) (k2 : t0 = 0 → J l z X (d + 4) mX10_happen (0, 0) 0 [jR 96, jI x7, jI (x4 % 6), jI x8] [] (jG, M) (fun r μ => J l z X (d + 5) mX10_year (0, 0) 169 [jR 96, jI x1, jI x2, jI x3, jI x4, jI x5, jI x6, jI x7, jI x8] (r.toList ++ []) μ Q)) : J l z X (d + 5) mX10_year (0, 0) 153 [jR 96, jI x1, jI x2, jI x3, jI x4, jI x5, jI x6, jI x7, jI x8] [jI t0] (jG, M) Q :=
  (J_if_ne dX10_year_153 (tgt := 169) (by decide) (fun c1 => (k1 c1)) (fun c1 => (J_aload_n dX10_year_156 rfl (J_iload dX10_year_157 rfl (J_iload dX10_year_159 rfl (J_bipush dX10_year_161 jc_6 jb_6 (J_irem dX10_year_163 (s1 c1) (by decide) (J_iload dX10_year_164 rfl (J_callV (a1 := (0, 0)) (a2 := (0, 0)) (mm' := mX10_happen) (S := []) [jI x7, jI (x4 % 6), jI x8] md_X10_happen im_X10_happen se_X10_happen dX10_year_166 wm_X10_186 jcl_X10.1 rfl g_96 rfl rfl (Nat.le_of_ble_eq_true rfl) (Nat.le_of_ble_eq_true rfl) rfl (k2 c1))))))))))
theorem b_X10_year_169 {l : Launch} {z d : Nat} {X : jX} {M : Nat → Int → Int} {Q : Option jV → jM → Prop} {x1 : Int} {x2 : Int} {x3 : Int} {x4 : Int} {x5 : Int} {x6 : Int} {x7 : Int} {x8 : Int}  (s1 : jIn (x5 + 1)) (k1 : J l z X (d + 5) mX10_year (0, 0) 53 [jR 96, jI x1, jI x2, jI x3, jI x4, jI (x5 + 1), jN, jN, jN] [] (jG, M) Q) : J l z X (d + 5) mX10_year (0, 0) 169 [jR 96, jI x1, jI x2, jI x3, jI x4, jI x5, jI x6, jI x7, jI x8] [] (jG, M) Q :=
  (J_iinc dX10_year_169 rfl jc_1 s1 (J_goto dX10_year_172 (tgt := 53) (by decide) (J_weak [jR 96, jI x1, jI x2, jI x3, jI x4, jI (x5 + 1), jN, jN, jN] ⟨Or.inr rfl, Or.inr rfl, Or.inr rfl, Or.inr rfl, Or.inr rfl, Or.inr rfl, Or.inl rfl, Or.inl rfl, Or.inl rfl, trivial⟩ k1)))
theorem b_X10_year_181 {l : Launch} {z d : Nat} {X : jX} {M : Nat → Int → Int} {Q : Option jV → jM → Prop} {x1 : Int} {x2 : Int} {x3 : Int} {x4 : Int} {x5 : Int} {x6 : Int}  (s1 : x6 < 6 → hasB (M 96 0) x6 = true → 0 ≤ x6) (s2 : x6 < 6 → hasB (M 96 0) x6 = true → x6 < 6) (k1 : 6 ≤ x6 → J l z X (d + 4) mX10_oldestNow (0, 0) 0 [jR 96, jN, jN] [] (jG, M) (fun r μ => J l z X (d + 5) mX10_year (0, 0) 223 [jR 96, jI x1, jI x2, jI x3, jI x4, jI x5, jI x6, jN, jN] (r.toList ++ []) μ Q)) (k2 : x6 < 6 → hasB (M 96 0) x6 = true → J l z X (d + 5) mX10_year (0, 0) 210 [jR 96, jI x1, jI x2, jI x3, jI x4, jI x5, jI x6, jN, jN] [jI (M 97 x6), jI x5] (jG, M) Q) (k3 : x6 < 6 → hasB (M 96 0) x6 = false → J l z X (d + 5) mX10_year (0, 0) 210 [jR 96, jI x1, jI x2, jI x3, jI x4, jI x5, jI x6, jN, jN] [jI 0, jI x5] (jG, M) Q) : J l z X (d + 5) mX10_year (0, 0) 181 [jR 96, jI x1, jI x2, jI x3, jI x4, jI x5, jI x6, jN, jN] [] (jG, M) Q :=
  (J_iload dX10_year_181 rfl (J_bipush dX10_year_183 jc_6 jb_6 (J_icmp_ge dX10_year_185 (tgt := 219) (by decide) (fun c1 => (J_aload_n dX10_year_219 rfl (J_callV (a1 := (0, 0)) (a2 := (0, 0)) (mm' := mX10_oldestNow) (S := []) [] md_X10_oldestNow im_X10_oldestNow se_X10_oldestNow dX10_year_220 wm_X10_164 jcl_X10.1 rfl g_96 rfl rfl (Nat.le_of_ble_eq_true rfl) (Nat.le_of_ble_eq_true rfl) rfl (k1 c1)))) (fun c1 => (J_iload dX10_year_188 rfl (J_aload_n dX10_year_190 rfl (J_iload dX10_year_191 rfl (J_callV (a1 := (0, 0)) (a2 := (0, 0)) (mm' := mX10_isOne) (S := [jI x5]) [jI x6] md_X10_isOne im_X10_isOne se_X10_isOne dX10_year_193 wm_X10_109 jcl_X10.1 rfl g_96 rfl rfl (Nat.le_of_ble_eq_true rfl) (Nat.le_of_ble_eq_true rfl) rfl (c_X10_isOne   (fun c2 => (J_if_eq dX10_year_196 (tgt := 209) (by decide) (fun c => absurd c (by decide)) (fun _ => (J_aload_n dX10_year_199 rfl (J_getR (k := 4) jcl_X10 dX10_year_200 wf_X10_7 g_96 (Nat.le_of_ble_eq_true rfl) rfl rfl (J_iload dX10_year_203 rfl (J_iald dX10_year_205 g_97 (s1 c1 c2) (s2 c1 c2) (J_goto dX10_year_206 (tgt := 210) (by decide) (k2 c1 c2))))))))) (fun c2 => (J_if_eq dX10_year_196 (tgt := 209) (by decide) (fun _ => (J_iconst dX10_year_209 jc_0 (k3 c1 c2))) (fun c => absurd c (by decide)))))))))))))
theorem b_X10_year_210 {l : Launch} {z d : Nat} {X : jX} {M : Nat → Int → Int} {Q : Option jV → jM → Prop} {x1 : Int} {x2 : Int} {x3 : Int} {x4 : Int} {x5 : Int} {x6 : Int} {t0 : Int} {t1 : Int}  (s1 : jIn (t0 + t1)) (s2 : jIn (x6 + 1)) (k1 : J l z X (d + 5) mX10_year (0, 0) 181 [jR 96, jI x1, jI x2, jI x3, jI x4, jI (t0 + t1), jI (x6 + 1), jN, jN] [] (jG, M) Q) : J l z X (d + 5) mX10_year (0, 0) 210 [jR 96, jI x1, jI x2, jI x3, jI x4, jI x5, jI x6, jN, jN] [jI t1, jI t0] (jG, M) Q :=
  (J_iadd dX10_year_210 s1 (J_istore dX10_year_211 (Nat.le_of_ble_eq_true rfl) (J_iinc dX10_year_213 rfl jc_1 s2 (J_goto dX10_year_216 (tgt := 181) (by decide) k1))))
theorem b_X10_year_223 {l : Launch} {z d : Nat} {X : jX} {M : Nat → Int → Int} {Q : Option jV → jM → Prop} {x1 : Int} {x2 : Int} {x3 : Int} {x4 : Int} {x5 : Int} {x6 : Int} {t0 : Int}   (k1 : x3 ≠ 0 → x3 ≠ 1 → J l z X (d + 5) mX10_year (0, 0) 249 [jR 96, jI x1, jI x2, jI x3, jI x4, jI x5, jI t0, jN, jN] [jI (M 96 17), jR 96] (jG, M) Q) (k2 : x3 ≠ 0 → x3 = 1 → J l z X (d + 5) mX10_year (0, 0) 249 [jR 96, jI x1, jI x2, jI x3, jI x4, jI x5, jI t0, jN, jN] [jI t0, jR 96] (jG, M) Q) (k3 : x3 = 0 → J l z X (d + 5) mX10_year (0, 0) 249 [jR 96, jI x1, jI x2, jI x3, jI x4, jI x5, jI t0, jN, jN] [jI x5, jR 96] (jG, M) Q) : J l z X (d + 5) mX10_year (0, 0) 223 [jR 96, jI x1, jI x2, jI x3, jI x4, jI x5, jI x6, jN, jN] [jI t0] (jG, M) Q :=
  (J_istore dX10_year_223 (Nat.le_of_ble_eq_true rfl) (J_aload_n dX10_year_225 rfl (J_iload_n dX10_year_226 rfl (J_if_ne dX10_year_227 (tgt := 235) (by decide) (fun c1 => (J_iload_n dX10_year_235 rfl (J_iconst dX10_year_236 jc_1 (J_icmp_ne dX10_year_237 (tgt := 245) (by decide) (fun c2 => (J_aload_n dX10_year_245 rfl (J_getI (k := 17) (kz := 17) jcl_X10 dX10_year_246 wf_X10_158 g_96 (Nat.le_of_ble_eq_true rfl) rfl rfl (k1 c1 c2)))) (fun c2 => (J_iload dX10_year_240 rfl (J_goto dX10_year_242 (tgt := 249) (by decide) (k2 c1 c2)))))))) (fun c1 => (J_iload dX10_year_230 rfl (J_goto dX10_year_232 (tgt := 249) (by decide) (k3 c1))))))))
theorem b_X10_year_249 {l : Launch} {z d : Nat} {X : jX} {M : Nat → Int → Int} {Q : Option jV → jM → Prop} {x1 : Int} {x2 : Int} {x3 : Int} {x4 : Int} {x5 : Int} {x6 : Int} {t1 : Int}   (k1 : J l z X (d + 4) mX10_back (0, 0) 0 [jR 96, jI t1, jN] [] (jG, M) (fun r μ => J l z X (d + 5) mX10_year (0, 0) 252 [jR 96, jI x1, jI x2, jI x3, jI x4, jI x5, jI x6, jN, jN] (r.toList ++ []) μ Q)) : J l z X (d + 5) mX10_year (0, 0) 249 [jR 96, jI x1, jI x2, jI x3, jI x4, jI x5, jI x6, jN, jN] [jI t1, jR 96] (jG, M) Q :=
  (J_callV (a1 := (0, 0)) (a2 := (0, 0)) (mm' := mX10_back) (S := []) [jI t1] md_X10_back im_X10_back se_X10_back dX10_year_249 wm_X10_202 jcl_X10.1 rfl g_96 rfl rfl (Nat.le_of_ble_eq_true rfl) (Nat.le_of_ble_eq_true rfl) rfl k1)
theorem b_X10_year_252 {l : Launch} {z d : Nat} {X : jX} {M : Nat → Int → Int} {Q : Option jV → jM → Prop} {x1 : Int} {x2 : Int} {x3 : Int} {x4 : Int} {x5 : Int} {x6 : Int} {t0 : Int}   (k1 : Q (some (jI t0)) (jG, M)) : J l z X (d + 5) mX10_year (0, 0) 252 [jR 96, jI x1, jI x2, jI x3, jI x4, jI x5, jI x6, jN, jN] [jI t0] (jG, M) Q :=
  (J_iret dX10_year_252 rfl k1)
theorem b_X10_pass_0 {l : Launch} {z d : Nat} {X : jX} {M : Nat → Int → Int} {Q : Option jV → jM → Prop} {x1 : Int}  (s1 : (M 96 37) = 0 → 0 ≤ (M 96 36)) (s2 : (M 96 37) = 0 → (M 96 36) < 120) (k1 : (M 96 37) = 0 → J l z X d mX10_pass (0, 0) 20 [jR 96, jI x1, jN] [jI (M 119 (M 96 36))] (jG, M) Q) (k2 : (M 96 37) ≠ 0 → J l z X d mX10_pass (0, 0) 20 [jR 96, jI x1, jN] [jI x1] (jG, M) Q) : J l z X d mX10_pass (0, 0) 0 [jR 96, jI x1, jN] [] (jG, M) Q :=
  (J_aload_n dX10_pass_0 rfl (J_getI (k := 37) (kz := 37) jcl_X10 dX10_pass_1 wf_X10_297 g_96 (Nat.le_of_ble_eq_true rfl) rfl rfl (J_if_eq dX10_pass_4 (tgt := 11) (by decide) (fun c1 => (J_aload_n dX10_pass_11 rfl (J_getR (k := 34) jcl_X10 dX10_pass_12 wf_X10_78 g_96 (Nat.le_of_ble_eq_true rfl) rfl rfl (J_aload_n dX10_pass_15 rfl (J_getI (k := 36) (kz := 36) jcl_X10 dX10_pass_16 wf_X10_301 g_96 (Nat.le_of_ble_eq_true rfl) rfl rfl (J_iald dX10_pass_19 g_119 (s1 c1) (s2 c1) (k1 c1))))))) (fun c1 => (J_iload_n dX10_pass_7 rfl (J_goto dX10_pass_8 (tgt := 20) (by decide) (k2 c1)))))))
theorem b_X10_pass_20 {l : Launch} {z d : Nat} {X : jX} {M : Nat → Int → Int} {Q : Option jV → jM → Prop} {x1 : Int} {t0 : Int}  (s1 : 0 ≤ (M 96 36)) (s2 : (M 96 36) < 120) (s3 : jIn (((jupd M 119 (M 96 36) t0) 96 36) + 1)) (k1 : Q (some (jI t0)) (jG, (jupd (jupd M 119 (M 96 36) t0) 96 36 (((jupd M 119 (M 96 36) t0) 96 36) + 1)))) : J l z X d mX10_pass (0, 0) 20 [jR 96, jI x1, jN] [jI t0] (jG, M) Q :=
  (J_istore_n dX10_pass_20 (Nat.le_of_ble_eq_true rfl) (J_aload_n dX10_pass_21 rfl (J_getR (k := 34) jcl_X10 dX10_pass_22 wf_X10_78 g_96 (Nat.le_of_ble_eq_true rfl) rfl rfl (J_aload_n dX10_pass_25 rfl (J_getI (k := 36) (kz := 36) jcl_X10 dX10_pass_26 wf_X10_301 g_96 (Nat.le_of_ble_eq_true rfl) rfl rfl (J_iload_n dX10_pass_29 rfl (J_iast dX10_pass_30 g_119 s1 s2 (J_aload_n dX10_pass_31 rfl (J_dupR dX10_pass_32 (J_getI (k := 36) (kz := 36) jcl_X10 dX10_pass_33 wf_X10_301 g_96 (Nat.le_of_ble_eq_true rfl) rfl rfl (J_iconst dX10_pass_36 jc_1 (J_iadd dX10_pass_37 s3 (J_putI (k := 36) (kz := 36) jcl_X10 dX10_pass_38 wf_X10_301 g_96 (Nat.le_of_ble_eq_true rfl) rfl rfl rfl (J_iload_n dX10_pass_41 rfl (J_iret dX10_pass_42 rfl k1)))))))))))))))
theorem b_X10_passAll_0 {l : Launch} {z d : Nat} {X : jX} {M : Nat → Int → Int} {Q : Option jV → jM → Prop}    (k1 : J l z X d mX10_pass (0, 0) 0 [jR 96, jI (M 96 0), jN] [] (jG, M) (fun r μ => J l z X (d + 1) mX10_passAll (0, 0) 9 [jR 96, jN] (r.toList ++ [jR 96]) μ Q)) : J l z X (d + 1) mX10_passAll (0, 0) 0 [jR 96, jN] [] (jG, M) Q :=
  (J_aload_n dX10_passAll_0 rfl (J_aload_n dX10_passAll_1 rfl (J_aload_n dX10_passAll_2 rfl (J_getI (k := 0) (kz := 0) jcl_X10 dX10_passAll_3 wf_X10_98 g_96 (Nat.le_of_ble_eq_true rfl) rfl rfl (J_callV (a1 := (0, 0)) (a2 := (0, 0)) (mm' := mX10_pass) (S := [jR 96]) [jI (M 96 0)] md_X10_pass im_X10_pass se_X10_pass dX10_passAll_6 wm_X10_304 jcl_X10.1 rfl g_96 rfl rfl (Nat.le_of_ble_eq_true rfl) (Nat.le_of_ble_eq_true rfl) rfl k1)))))
theorem b_X10_passAll_9 {l : Launch} {z d : Nat} {X : jX} {M : Nat → Int → Int} {Q : Option jV → jM → Prop} {t1 : Int}   (k1 : J l z X d mX10_pass (0, 0) 0 [jR 96, jI ((jupd M 96 0 t1) 96 1), jN] [] (jG, (jupd M 96 0 t1)) (fun r μ => J l z X (d + 1) mX10_passAll (0, 0) 21 [jR 96, jN] (r.toList ++ [jR 96]) μ Q)) : J l z X (d + 1) mX10_passAll (0, 0) 9 [jR 96, jN] [jI t1, jR 96] (jG, M) Q :=
  (J_putI (k := 0) (kz := 0) jcl_X10 dX10_passAll_9 wf_X10_98 g_96 (Nat.le_of_ble_eq_true rfl) rfl rfl rfl (J_aload_n dX10_passAll_12 rfl (J_aload_n dX10_passAll_13 rfl (J_aload_n dX10_passAll_14 rfl (J_getI (k := 1) (kz := 1) jcl_X10 dX10_passAll_15 wf_X10_117 g_96 (Nat.le_of_ble_eq_true rfl) rfl rfl (J_callV (a1 := (0, 0)) (a2 := (0, 0)) (mm' := mX10_pass) (S := [jR 96]) [jI ((jupd M 96 0 t1) 96 1)] md_X10_pass im_X10_pass se_X10_pass dX10_passAll_18 wm_X10_304 jcl_X10.1 rfl g_96 rfl rfl (Nat.le_of_ble_eq_true rfl) (Nat.le_of_ble_eq_true rfl) rfl k1))))))
theorem b_X10_passAll_21 {l : Launch} {z d : Nat} {X : jX} {M : Nat → Int → Int} {Q : Option jV → jM → Prop} {t1 : Int}   (k1 : J l z X d mX10_pass (0, 0) 0 [jR 96, jI ((jupd M 96 1 t1) 96 2), jN] [] (jG, (jupd M 96 1 t1)) (fun r μ => J l z X (d + 1) mX10_passAll (0, 0) 33 [jR 96, jN] (r.toList ++ [jR 96]) μ Q)) : J l z X (d + 1) mX10_passAll (0, 0) 21 [jR 96, jN] [jI t1, jR 96] (jG, M) Q :=
  (J_putI (k := 1) (kz := 1) jcl_X10 dX10_passAll_21 wf_X10_117 g_96 (Nat.le_of_ble_eq_true rfl) rfl rfl rfl (J_aload_n dX10_passAll_24 rfl (J_aload_n dX10_passAll_25 rfl (J_aload_n dX10_passAll_26 rfl (J_getI (k := 2) (kz := 2) jcl_X10 dX10_passAll_27 wf_X10_85 g_96 (Nat.le_of_ble_eq_true rfl) rfl rfl (J_callV (a1 := (0, 0)) (a2 := (0, 0)) (mm' := mX10_pass) (S := [jR 96]) [jI ((jupd M 96 1 t1) 96 2)] md_X10_pass im_X10_pass se_X10_pass dX10_passAll_30 wm_X10_304 jcl_X10.1 rfl g_96 rfl rfl (Nat.le_of_ble_eq_true rfl) (Nat.le_of_ble_eq_true rfl) rfl k1))))))
theorem b_X10_passAll_33 {l : Launch} {z d : Nat} {X : jX} {M : Nat → Int → Int} {Q : Option jV → jM → Prop} {t1 : Int}   (k1 : J l z X d mX10_pass (0, 0) 0 [jR 96, jI ((jupd M 96 2 t1) 96 3), jN] [] (jG, (jupd M 96 2 t1)) (fun r μ => J l z X (d + 1) mX10_passAll (0, 0) 45 [jR 96, jN] (r.toList ++ [jR 96]) μ Q)) : J l z X (d + 1) mX10_passAll (0, 0) 33 [jR 96, jN] [jI t1, jR 96] (jG, M) Q :=
  (J_putI (k := 2) (kz := 2) jcl_X10 dX10_passAll_33 wf_X10_85 g_96 (Nat.le_of_ble_eq_true rfl) rfl rfl rfl (J_aload_n dX10_passAll_36 rfl (J_aload_n dX10_passAll_37 rfl (J_aload_n dX10_passAll_38 rfl (J_getI (k := 3) (kz := 3) jcl_X10 dX10_passAll_39 wf_X10_89 g_96 (Nat.le_of_ble_eq_true rfl) rfl rfl (J_callV (a1 := (0, 0)) (a2 := (0, 0)) (mm' := mX10_pass) (S := [jR 96]) [jI ((jupd M 96 2 t1) 96 3)] md_X10_pass im_X10_pass se_X10_pass dX10_passAll_42 wm_X10_304 jcl_X10.1 rfl g_96 rfl rfl (Nat.le_of_ble_eq_true rfl) (Nat.le_of_ble_eq_true rfl) rfl k1))))))
theorem b_X10_passAll_45 {l : Launch} {z d : Nat} {X : jX} {M : Nat → Int → Int} {Q : Option jV → jM → Prop} {t1 : Int}   (k1 : J l z X d mX10_pass (0, 0) 0 [jR 96, jI ((jupd M 96 3 t1) 96 10), jN] [] (jG, (jupd M 96 3 t1)) (fun r μ => J l z X (d + 1) mX10_passAll (0, 0) 57 [jR 96, jN] (r.toList ++ [jR 96]) μ Q)) : J l z X (d + 1) mX10_passAll (0, 0) 45 [jR 96, jN] [jI t1, jR 96] (jG, M) Q :=
  (J_putI (k := 3) (kz := 3) jcl_X10 dX10_passAll_45 wf_X10_89 g_96 (Nat.le_of_ble_eq_true rfl) rfl rfl rfl (J_aload_n dX10_passAll_48 rfl (J_aload_n dX10_passAll_49 rfl (J_aload_n dX10_passAll_50 rfl (J_getI (k := 10) (kz := 10) jcl_X10 dX10_passAll_51 wf_X10_259 g_96 (Nat.le_of_ble_eq_true rfl) rfl rfl (J_callV (a1 := (0, 0)) (a2 := (0, 0)) (mm' := mX10_pass) (S := [jR 96]) [jI ((jupd M 96 3 t1) 96 10)] md_X10_pass im_X10_pass se_X10_pass dX10_passAll_54 wm_X10_304 jcl_X10.1 rfl g_96 rfl rfl (Nat.le_of_ble_eq_true rfl) (Nat.le_of_ble_eq_true rfl) rfl k1))))))
theorem b_X10_passAll_57 {l : Launch} {z d : Nat} {X : jX} {M : Nat → Int → Int} {Q : Option jV → jM → Prop} {t1 : Int}   (k1 : J l z X (d + 1) mX10_passAll (0, 0) 62 [jR 96, jI 0] [] (jG, (jupd M 96 10 t1)) Q) : J l z X (d + 1) mX10_passAll (0, 0) 57 [jR 96, jN] [jI t1, jR 96] (jG, M) Q :=
  (J_putI (k := 10) (kz := 10) jcl_X10 dX10_passAll_57 wf_X10_259 g_96 (Nat.le_of_ble_eq_true rfl) rfl rfl rfl (J_iconst dX10_passAll_60 jc_0 (J_istore_n dX10_passAll_61 (Nat.le_of_ble_eq_true rfl) k1)))
theorem b_X10_passAll_62 {l : Launch} {z d : Nat} {X : jX} {M : Nat → Int → Int} {Q : Option jV → jM → Prop} {x1 : Int}  (s1 : x1 < 6 → 0 ≤ x1) (s2 : x1 < 6 → x1 < 6) (k1 : 6 ≤ x1 → J l z X (d + 1) mX10_passAll (0, 0) 140 [jR 96, jI 0] [] (jG, M) Q) (k2 : x1 < 6 → J l z X d mX10_pass (0, 0) 0 [jR 96, jI (M 97 x1), jN] [] (jG, M) (fun r μ => J l z X (d + 1) mX10_passAll (0, 0) 83 [jR 96, jI x1] (r.toList ++ [jI x1, jR 97]) μ Q)) : J l z X (d + 1) mX10_passAll (0, 0) 62 [jR 96, jI x1] [] (jG, M) Q :=
  (J_iload_n dX10_passAll_62 rfl (J_bipush dX10_passAll_63 jc_6 jb_6 (J_icmp_ge dX10_passAll_65 (tgt := 138) (by decide) (fun c1 => (J_iconst dX10_passAll_138 jc_0 (J_istore_n dX10_passAll_139 (Nat.le_of_ble_eq_true rfl) (k1 c1)))) (fun c1 => (J_aload_n dX10_passAll_68 rfl (J_getR (k := 4) jcl_X10 dX10_passAll_69 wf_X10_7 g_96 (Nat.le_of_ble_eq_true rfl) rfl rfl (J_iload_n dX10_passAll_72 rfl (J_aload_n dX10_passAll_73 rfl (J_aload_n dX10_passAll_74 rfl (J_getR (k := 4) jcl_X10 dX10_passAll_75 wf_X10_7 g_96 (Nat.le_of_ble_eq_true rfl) rfl rfl (J_iload_n dX10_passAll_78 rfl (J_iald dX10_passAll_79 g_97 (s1 c1) (s2 c1) (J_callV (a1 := (0, 0)) (a2 := (0, 0)) (mm' := mX10_pass) (S := [jI x1, jR 97]) [jI (M 97 x1)] md_X10_pass im_X10_pass se_X10_pass dX10_passAll_80 wm_X10_304 jcl_X10.1 rfl g_96 rfl rfl (Nat.le_of_ble_eq_true rfl) (Nat.le_of_ble_eq_true rfl) rfl (k2 c1))))))))))))))
theorem b_X10_passAll_83 {l : Launch} {z d : Nat} {X : jX} {M : Nat → Int → Int} {Q : Option jV → jM → Prop} {x1 : Int} {t1 : Int} {t2 : Int}  (s1 : 0 ≤ t1) (s2 : t1 < 6) (s3 : 0 ≤ x1) (s4 : x1 < 6) (k1 : J l z X d mX10_pass (0, 0) 0 [jR 96, jI ((jupd M 97 t1 t2) 98 x1), jN] [] (jG, (jupd M 97 t1 t2)) (fun r μ => J l z X (d + 1) mX10_passAll (0, 0) 99 [jR 96, jI x1] (r.toList ++ [jI x1, jR 98]) μ Q)) : J l z X (d + 1) mX10_passAll (0, 0) 83 [jR 96, jI x1] [jI t2, jI t1, jR 97] (jG, M) Q :=
  (J_iast dX10_passAll_83 g_97 s1 s2 (J_aload_n dX10_passAll_84 rfl (J_getR (k := 5) jcl_X10 dX10_passAll_85 wf_X10_13 g_96 (Nat.le_of_ble_eq_true rfl) rfl rfl (J_iload_n dX10_passAll_88 rfl (J_aload_n dX10_passAll_89 rfl (J_aload_n dX10_passAll_90 rfl (J_getR (k := 5) jcl_X10 dX10_passAll_91 wf_X10_13 g_96 (Nat.le_of_ble_eq_true rfl) rfl rfl (J_iload_n dX10_passAll_94 rfl (J_iald dX10_passAll_95 g_98 s3 s4 (J_callV (a1 := (0, 0)) (a2 := (0, 0)) (mm' := mX10_pass) (S := [jI x1, jR 98]) [jI ((jupd M 97 t1 t2) 98 x1)] md_X10_pass im_X10_pass se_X10_pass dX10_passAll_96 wm_X10_304 jcl_X10.1 rfl g_96 rfl rfl (Nat.le_of_ble_eq_true rfl) (Nat.le_of_ble_eq_true rfl) rfl k1))))))))))
theorem b_X10_passAll_99 {l : Launch} {z d : Nat} {X : jX} {M : Nat → Int → Int} {Q : Option jV → jM → Prop} {x1 : Int} {t1 : Int} {t2 : Int}  (s1 : 0 ≤ t1) (s2 : t1 < 6) (s3 : 0 ≤ x1) (s4 : x1 < 6) (k1 : J l z X d mX10_pass (0, 0) 0 [jR 96, jI ((jupd M 98 t1 t2) 99 x1), jN] [] (jG, (jupd M 98 t1 t2)) (fun r μ => J l z X (d + 1) mX10_passAll (0, 0) 115 [jR 96, jI x1] (r.toList ++ [jI x1, jR 99]) μ Q)) : J l z X (d + 1) mX10_passAll (0, 0) 99 [jR 96, jI x1] [jI t2, jI t1, jR 98] (jG, M) Q :=
  (J_iast dX10_passAll_99 g_98 s1 s2 (J_aload_n dX10_passAll_100 rfl (J_getR (k := 6) jcl_X10 dX10_passAll_101 wf_X10_16 g_96 (Nat.le_of_ble_eq_true rfl) rfl rfl (J_iload_n dX10_passAll_104 rfl (J_aload_n dX10_passAll_105 rfl (J_aload_n dX10_passAll_106 rfl (J_getR (k := 6) jcl_X10 dX10_passAll_107 wf_X10_16 g_96 (Nat.le_of_ble_eq_true rfl) rfl rfl (J_iload_n dX10_passAll_110 rfl (J_iald dX10_passAll_111 g_99 s3 s4 (J_callV (a1 := (0, 0)) (a2 := (0, 0)) (mm' := mX10_pass) (S := [jI x1, jR 99]) [jI ((jupd M 98 t1 t2) 99 x1)] md_X10_pass im_X10_pass se_X10_pass dX10_passAll_112 wm_X10_304 jcl_X10.1 rfl g_96 rfl rfl (Nat.le_of_ble_eq_true rfl) (Nat.le_of_ble_eq_true rfl) rfl k1))))))))))
theorem b_X10_passAll_115 {l : Launch} {z d : Nat} {X : jX} {M : Nat → Int → Int} {Q : Option jV → jM → Prop} {x1 : Int} {t1 : Int} {t2 : Int}  (s1 : 0 ≤ t1) (s2 : t1 < 6) (s3 : 0 ≤ x1) (s4 : x1 < 6) (k1 : J l z X d mX10_pass (0, 0) 0 [jR 96, jI ((jupd M 99 t1 t2) 100 x1), jN] [] (jG, (jupd M 99 t1 t2)) (fun r μ => J l z X (d + 1) mX10_passAll (0, 0) 131 [jR 96, jI x1] (r.toList ++ [jI x1, jR 100]) μ Q)) : J l z X (d + 1) mX10_passAll (0, 0) 115 [jR 96, jI x1] [jI t2, jI t1, jR 99] (jG, M) Q :=
  (J_iast dX10_passAll_115 g_99 s1 s2 (J_aload_n dX10_passAll_116 rfl (J_getR (k := 7) jcl_X10 dX10_passAll_117 wf_X10_19 g_96 (Nat.le_of_ble_eq_true rfl) rfl rfl (J_iload_n dX10_passAll_120 rfl (J_aload_n dX10_passAll_121 rfl (J_aload_n dX10_passAll_122 rfl (J_getR (k := 7) jcl_X10 dX10_passAll_123 wf_X10_19 g_96 (Nat.le_of_ble_eq_true rfl) rfl rfl (J_iload_n dX10_passAll_126 rfl (J_iald dX10_passAll_127 g_100 s3 s4 (J_callV (a1 := (0, 0)) (a2 := (0, 0)) (mm' := mX10_pass) (S := [jI x1, jR 100]) [jI ((jupd M 99 t1 t2) 100 x1)] md_X10_pass im_X10_pass se_X10_pass dX10_passAll_128 wm_X10_304 jcl_X10.1 rfl g_96 rfl rfl (Nat.le_of_ble_eq_true rfl) (Nat.le_of_ble_eq_true rfl) rfl k1))))))))))
theorem b_X10_passAll_131 {l : Launch} {z d : Nat} {X : jX} {M : Nat → Int → Int} {Q : Option jV → jM → Prop} {x1 : Int} {t1 : Int} {t2 : Int}  (s1 : 0 ≤ t1) (s2 : t1 < 6) (s3 : jIn (x1 + 1)) (k1 : J l z X (d + 1) mX10_passAll (0, 0) 62 [jR 96, jI (x1 + 1)] [] (jG, (jupd M 100 t1 t2)) Q) : J l z X (d + 1) mX10_passAll (0, 0) 131 [jR 96, jI x1] [jI t2, jI t1, jR 100] (jG, M) Q :=
  (J_iast dX10_passAll_131 g_100 s1 s2 (J_iinc dX10_passAll_132 rfl jc_1 s3 (J_goto dX10_passAll_135 (tgt := 62) (by decide) k1)))
theorem b_X10_passAll_140 {l : Launch} {z d : Nat} {X : jX} {M : Nat → Int → Int} {Q : Option jV → jM → Prop} {x1 : Int}  (s1 : x1 < 8 → 0 ≤ x1) (s2 : x1 < 8 → x1 < 8) (k1 : 8 ≤ x1 → Q none (jG, M)) (k2 : x1 < 8 → J l z X d mX10_pass (0, 0) 0 [jR 96, jI (M 101 x1), jN] [] (jG, M) (fun r μ => J l z X (d + 1) mX10_passAll (0, 0) 161 [jR 96, jI x1] (r.toList ++ [jI x1, jR 101]) μ Q)) : J l z X (d + 1) mX10_passAll (0, 0) 140 [jR 96, jI x1] [] (jG, M) Q :=
  (J_iload_n dX10_passAll_140 rfl (J_bipush dX10_passAll_141 jc_8 jb_8 (J_icmp_ge dX10_passAll_143 (tgt := 184) (by decide) (fun c1 => (J_vret dX10_passAll_184 rfl (k1 c1))) (fun c1 => (J_aload_n dX10_passAll_146 rfl (J_getR (k := 8) jcl_X10 dX10_passAll_147 wf_X10_22 g_96 (Nat.le_of_ble_eq_true rfl) rfl rfl (J_iload_n dX10_passAll_150 rfl (J_aload_n dX10_passAll_151 rfl (J_aload_n dX10_passAll_152 rfl (J_getR (k := 8) jcl_X10 dX10_passAll_153 wf_X10_22 g_96 (Nat.le_of_ble_eq_true rfl) rfl rfl (J_iload_n dX10_passAll_156 rfl (J_iald dX10_passAll_157 g_101 (s1 c1) (s2 c1) (J_callV (a1 := (0, 0)) (a2 := (0, 0)) (mm' := mX10_pass) (S := [jI x1, jR 101]) [jI (M 101 x1)] md_X10_pass im_X10_pass se_X10_pass dX10_passAll_158 wm_X10_304 jcl_X10.1 rfl g_96 rfl rfl (Nat.le_of_ble_eq_true rfl) (Nat.le_of_ble_eq_true rfl) rfl (k2 c1))))))))))))))
theorem b_X10_passAll_161 {l : Launch} {z d : Nat} {X : jX} {M : Nat → Int → Int} {Q : Option jV → jM → Prop} {x1 : Int} {t1 : Int} {t2 : Int}  (s1 : 0 ≤ t1) (s2 : t1 < 8) (s3 : 0 ≤ x1) (s4 : x1 < 8) (k1 : J l z X d mX10_pass (0, 0) 0 [jR 96, jI ((jupd M 101 t1 t2) 102 x1), jN] [] (jG, (jupd M 101 t1 t2)) (fun r μ => J l z X (d + 1) mX10_passAll (0, 0) 177 [jR 96, jI x1] (r.toList ++ [jI x1, jR 102]) μ Q)) : J l z X (d + 1) mX10_passAll (0, 0) 161 [jR 96, jI x1] [jI t2, jI t1, jR 101] (jG, M) Q :=
  (J_iast dX10_passAll_161 g_101 s1 s2 (J_aload_n dX10_passAll_162 rfl (J_getR (k := 9) jcl_X10 dX10_passAll_163 wf_X10_25 g_96 (Nat.le_of_ble_eq_true rfl) rfl rfl (J_iload_n dX10_passAll_166 rfl (J_aload_n dX10_passAll_167 rfl (J_aload_n dX10_passAll_168 rfl (J_getR (k := 9) jcl_X10 dX10_passAll_169 wf_X10_25 g_96 (Nat.le_of_ble_eq_true rfl) rfl rfl (J_iload_n dX10_passAll_172 rfl (J_iald dX10_passAll_173 g_102 s3 s4 (J_callV (a1 := (0, 0)) (a2 := (0, 0)) (mm' := mX10_pass) (S := [jI x1, jR 102]) [jI ((jupd M 101 t1 t2) 102 x1)] md_X10_pass im_X10_pass se_X10_pass dX10_passAll_174 wm_X10_304 jcl_X10.1 rfl g_96 rfl rfl (Nat.le_of_ble_eq_true rfl) (Nat.le_of_ble_eq_true rfl) rfl k1))))))))))
theorem b_X10_passAll_177 {l : Launch} {z d : Nat} {X : jX} {M : Nat → Int → Int} {Q : Option jV → jM → Prop} {x1 : Int} {t1 : Int} {t2 : Int}  (s1 : 0 ≤ t1) (s2 : t1 < 8) (s3 : jIn (x1 + 1)) (k1 : J l z X (d + 1) mX10_passAll (0, 0) 140 [jR 96, jI (x1 + 1)] [] (jG, (jupd M 102 t1 t2)) Q) : J l z X (d + 1) mX10_passAll (0, 0) 177 [jR 96, jI x1] [jI t2, jI t1, jR 102] (jG, M) Q :=
  (J_iast dX10_passAll_177 g_102 s1 s2 (J_iinc dX10_passAll_178 rfl jc_1 s3 (J_goto dX10_passAll_181 (tgt := 140) (by decide) k1)))
theorem b_X10_image_0 {l : Launch} {z d : Nat} {X : jX} {M : Nat → Int → Int} {Q : Option jV → jM → Prop} {x1 : Int}  (s1 : 0 ≤ x1 ∧ x1 ≤ 1 → jIn (60 * x1)) (k1 : 0 ≤ x1 ∧ x1 ≤ 1 → J l z X (d + 1) mX10_passAll (0, 0) 0 [jR 96, jN] [] (jG, (jupd (jupd M 96 36 (60 * x1)) 96 37 1)) (fun r μ => J l z X (d + 2) mX10_image (0, 0) 30 [jR 96, jI x1] (r.toList ++ []) μ Q)) (k2 : ¬ (0 ≤ x1 ∧ x1 ≤ 1) → Q (some (jI (-2))) (jG, M)) : J l z X (d + 2) mX10_image (0, 0) 0 [jR 96, jI x1] [] (jG, M) Q :=
  (J_iload_n dX10_image_0 rfl (J_i2l dX10_image_1 (J_lconst dX10_image_2 jlc_0 jlv_0 (J_lconst dX10_image_3 jlc_1 jlv_1 (J_callS (a1 := (0, 0)) (a2 := (0, 0)) (mm' := mX10_in) (S := []) [jL x1, jL 0, jL 1] md_X10_in is_X10_in dX10_image_4 wm_X10_94 rfl rfl (Nat.le_of_ble_eq_true rfl) (Nat.le_of_ble_eq_true rfl) rfl (c_X10_in   (fun c1 => (J_if_ne dX10_image_7 (tgt := 13) (by decide) (fun _ => (J_aload_n dX10_image_13 rfl (J_bipush dX10_image_14 jc_60 jb_60 (J_iload_n dX10_image_16 rfl (J_imul dX10_image_17 (s1 c1) (J_putI (k := 36) (kz := 36) jcl_X10 dX10_image_18 wf_X10_301 g_96 (Nat.le_of_ble_eq_true rfl) rfl rfl rfl (J_aload_n dX10_image_21 rfl (J_iconst dX10_image_22 jc_1 (J_putZ (k := 37) (kz := 37) jcl_X10 dX10_image_23 wf_X10_297 g_96 (Nat.le_of_ble_eq_true rfl) rfl rfl rfl (Or.inr rfl) (J_aload_n dX10_image_26 rfl (J_callV (a1 := (0, 0)) (a2 := (0, 0)) (mm' := mX10_passAll) (S := []) [] md_X10_passAll im_X10_passAll se_X10_passAll dX10_image_27 wm_X10_307 jcl_X10.1 rfl g_96 rfl rfl (Nat.le_of_ble_eq_true rfl) (Nat.le_of_ble_eq_true rfl) rfl (k1 c1)))))))))))) (fun c => absurd c (by decide)))) (fun c1 => (J_if_ne dX10_image_7 (tgt := 13) (by decide) (fun c => absurd c (by decide)) (fun _ => (J_bipush dX10_image_10 jc_m2 jb_m2 (J_iret dX10_image_12 rfl (k2 c1))))))))))))
theorem b_X10_image_30 {l : Launch} {z d : Nat} {X : jX} {M : Nat → Int → Int} {Q : Option jV → jM → Prop} {x1 : Int}  (s1 : 0 ≤ x1) (s2 : x1 < 2) (k1 : Q (some (jI 1)) (jG, (jupd M 120 x1 1))) : J l z X (d + 2) mX10_image (0, 0) 30 [jR 96, jI x1] [] (jG, M) Q :=
  (J_aload_n dX10_image_30 rfl (J_getR (k := 35) jcl_X10 dX10_image_31 wf_X10_81 g_96 (Nat.le_of_ble_eq_true rfl) rfl rfl (J_iload_n dX10_image_34 rfl (J_iconst dX10_image_35 jc_1 (J_zast dX10_image_36 g_120 s1 s2 (Or.inr rfl) (J_iconst dX10_image_37 jc_1 (J_iret dX10_image_38 rfl k1)))))))
theorem b_X10_restore_0 {l : Launch} {z d : Nat} {X : jX} {M : Nat → Int → Int} {Q : Option jV → jM → Prop} {x1 : Int}  (s1 : 0 ≤ x1 ∧ x1 ≤ 1 → 0 ≤ x1) (s2 : 0 ≤ x1 ∧ x1 ≤ 1 → x1 < 2) (s3 : 0 ≤ x1 ∧ x1 ≤ 1 → (M 120 x1) ≠ 0 → jIn (60 * x1)) (k1 : 0 ≤ x1 ∧ x1 ≤ 1 → (M 120 x1) ≠ 0 → J l z X (d + 1) mX10_passAll (0, 0) 0 [jR 96, jN] [] (jG, (jupd (jupd M 96 36 (60 * x1)) 96 37 0)) (fun r μ => J l z X (d + 2) mX10_restore (0, 0) 42 [jR 96, jI x1] (r.toList ++ []) μ Q)) (k2 : 0 ≤ x1 ∧ x1 ≤ 1 → (M 120 x1) = 0 → Q (some (jI (-3))) (jG, M)) (k3 : ¬ (0 ≤ x1 ∧ x1 ≤ 1) → Q (some (jI (-2))) (jG, M)) : J l z X (d + 2) mX10_restore (0, 0) 0 [jR 96, jI x1] [] (jG, M) Q :=
  (J_iload_n dX10_restore_0 rfl (J_i2l dX10_restore_1 (J_lconst dX10_restore_2 jlc_0 jlv_0 (J_lconst dX10_restore_3 jlc_1 jlv_1 (J_callS (a1 := (0, 0)) (a2 := (0, 0)) (mm' := mX10_in) (S := []) [jL x1, jL 0, jL 1] md_X10_in is_X10_in dX10_restore_4 wm_X10_94 rfl rfl (Nat.le_of_ble_eq_true rfl) (Nat.le_of_ble_eq_true rfl) rfl (c_X10_in   (fun c1 => (J_if_ne dX10_restore_7 (tgt := 13) (by decide) (fun _ => (J_aload_n dX10_restore_13 rfl (J_getR (k := 35) jcl_X10 dX10_restore_14 wf_X10_81 g_96 (Nat.le_of_ble_eq_true rfl) rfl rfl (J_iload_n dX10_restore_17 rfl (J_zald dX10_restore_18 g_120 (s1 c1) (s2 c1) (J_if_ne dX10_restore_19 (tgt := 25) (by decide) (fun c2 => (J_aload_n dX10_restore_25 rfl (J_bipush dX10_restore_26 jc_60 jb_60 (J_iload_n dX10_restore_28 rfl (J_imul dX10_restore_29 (s3 c1 c2) (J_putI (k := 36) (kz := 36) jcl_X10 dX10_restore_30 wf_X10_301 g_96 (Nat.le_of_ble_eq_true rfl) rfl rfl rfl (J_aload_n dX10_restore_33 rfl (J_iconst dX10_restore_34 jc_0 (J_putZ (k := 37) (kz := 37) jcl_X10 dX10_restore_35 wf_X10_297 g_96 (Nat.le_of_ble_eq_true rfl) rfl rfl rfl (Or.inl rfl) (J_aload_n dX10_restore_38 rfl (J_callV (a1 := (0, 0)) (a2 := (0, 0)) (mm' := mX10_passAll) (S := []) [] md_X10_passAll im_X10_passAll se_X10_passAll dX10_restore_39 wm_X10_307 jcl_X10.1 rfl g_96 rfl rfl (Nat.le_of_ble_eq_true rfl) (Nat.le_of_ble_eq_true rfl) rfl (k1 c1 c2)))))))))))) (fun c2 => (J_bipush dX10_restore_22 jc_m3 jb_m3 (J_iret dX10_restore_24 rfl (k2 c1 c2)))))))))) (fun c => absurd c (by decide)))) (fun c1 => (J_if_ne dX10_restore_7 (tgt := 13) (by decide) (fun c => absurd c (by decide)) (fun _ => (J_bipush dX10_restore_10 jc_m2 jb_m2 (J_iret dX10_restore_12 rfl (k3 c1))))))))))))
theorem b_X10_restore_42 {l : Launch} {z d : Nat} {X : jX} {M : Nat → Int → Int} {Q : Option jV → jM → Prop} {x1 : Int}   (k1 : Q (some (jI 1)) (jG, M)) : J l z X (d + 2) mX10_restore (0, 0) 42 [jR 96, jI x1] [] (jG, M) Q :=
  (J_iconst dX10_restore_42 jc_1 (J_iret dX10_restore_43 rfl k1))
theorem b_X10_toldOf_0 {l : Launch} {z d : Nat} {X : jX} {M : Nat → Int → Int} {Q : Option jV → jM → Prop} {x1 : Int} {x2 : Int}  (s1 : hasB (M 96 0) x1 = true → x2 ≠ 0 → x2 ≠ 1 → x2 ≠ 2 → x2 = 3 → 0 ≤ x1) (s2 : hasB (M 96 0) x1 = true → x2 ≠ 0 → x2 ≠ 1 → x2 ≠ 2 → x2 = 3 → x1 < 6) (s3 : hasB (M 96 0) x1 = true → x2 ≠ 0 → x2 ≠ 1 → x2 = 2 → 0 ≤ x1) (s4 : hasB (M 96 0) x1 = true → x2 ≠ 0 → x2 ≠ 1 → x2 = 2 → x1 < 6) (s5 : hasB (M 96 0) x1 = true → x2 ≠ 0 → x2 = 1 → 0 ≤ x1) (s6 : hasB (M 96 0) x1 = true → x2 ≠ 0 → x2 = 1 → x1 < 6) (s7 : hasB (M 96 0) x1 = true → x2 = 0 → 0 ≤ x1) (s8 : hasB (M 96 0) x1 = true → x2 = 0 → x1 < 6) (k1 : hasB (M 96 0) x1 = true → x2 ≠ 0 → x2 ≠ 1 → x2 ≠ 2 → x2 ≠ 3 → Q (some (jI (-2))) (jG, M)) (k2 : hasB (M 96 0) x1 = true → x2 ≠ 0 → x2 ≠ 1 → x2 ≠ 2 → x2 = 3 → Q (some (jI (M 100 x1))) (jG, M)) (k3 : hasB (M 96 0) x1 = true → x2 ≠ 0 → x2 ≠ 1 → x2 = 2 → Q (some (jI (M 99 x1))) (jG, M)) (k4 : hasB (M 96 0) x1 = true → x2 ≠ 0 → x2 = 1 → Q (some (jI (M 98 x1))) (jG, M)) (k5 : hasB (M 96 0) x1 = true → x2 = 0 → Q (some (jI (M 97 x1))) (jG, M)) (k6 : hasB (M 96 0) x1 = false → Q (some (jI (-2))) (jG, M)) : J l z X (d + 2) mX10_toldOf (0, 0) 0 [jR 96, jI x1, jI x2] [] (jG, M) Q :=
  (J_aload_n dX10_toldOf_0 rfl (J_iload_n dX10_toldOf_1 rfl (J_callV (a1 := (0, 0)) (a2 := (0, 0)) (mm' := mX10_isOne) (S := []) [jI x1] md_X10_isOne im_X10_isOne se_X10_isOne dX10_toldOf_2 wm_X10_109 jcl_X10.1 rfl g_96 rfl rfl (Nat.le_of_ble_eq_true rfl) (Nat.le_of_ble_eq_true rfl) rfl (c_X10_isOne   (fun c1 => (J_if_ne dX10_toldOf_5 (tgt := 11) (by decide) (fun _ => (J_iload_n dX10_toldOf_11 rfl (J_if_ne dX10_toldOf_12 (tgt := 24) (by decide) (fun c2 => (J_iload_n dX10_toldOf_24 rfl (J_iconst dX10_toldOf_25 jc_1 (J_icmp_ne dX10_toldOf_26 (tgt := 38) (by decide) (fun c3 => (J_iload_n dX10_toldOf_38 rfl (J_iconst dX10_toldOf_39 jc_2 (J_icmp_ne dX10_toldOf_40 (tgt := 52) (by decide) (fun c4 => (J_iload_n dX10_toldOf_52 rfl (J_iconst dX10_toldOf_53 jc_3 (J_icmp_ne dX10_toldOf_54 (tgt := 66) (by decide) (fun c5 => (J_bipush dX10_toldOf_66 jc_m2 jb_m2 (J_iret dX10_toldOf_68 rfl (k1 c1 c2 c3 c4 c5)))) (fun c5 => (J_aload_n dX10_toldOf_57 rfl (J_getR (k := 7) jcl_X10 dX10_toldOf_58 wf_X10_19 g_96 (Nat.le_of_ble_eq_true rfl) rfl rfl (J_iload_n dX10_toldOf_61 rfl (J_iald dX10_toldOf_62 g_100 (s1 c1 c2 c3 c4 c5) (s2 c1 c2 c3 c4 c5) (J_goto dX10_toldOf_63 (tgt := 68) (by decide) (J_iret dX10_toldOf_68 rfl (k2 c1 c2 c3 c4 c5)))))))))))) (fun c4 => (J_aload_n dX10_toldOf_43 rfl (J_getR (k := 6) jcl_X10 dX10_toldOf_44 wf_X10_16 g_96 (Nat.le_of_ble_eq_true rfl) rfl rfl (J_iload_n dX10_toldOf_47 rfl (J_iald dX10_toldOf_48 g_99 (s3 c1 c2 c3 c4) (s4 c1 c2 c3 c4) (J_goto dX10_toldOf_49 (tgt := 68) (by decide) (J_iret dX10_toldOf_68 rfl (k3 c1 c2 c3 c4)))))))))))) (fun c3 => (J_aload_n dX10_toldOf_29 rfl (J_getR (k := 5) jcl_X10 dX10_toldOf_30 wf_X10_13 g_96 (Nat.le_of_ble_eq_true rfl) rfl rfl (J_iload_n dX10_toldOf_33 rfl (J_iald dX10_toldOf_34 g_98 (s5 c1 c2 c3) (s6 c1 c2 c3) (J_goto dX10_toldOf_35 (tgt := 68) (by decide) (J_iret dX10_toldOf_68 rfl (k4 c1 c2 c3)))))))))))) (fun c2 => (J_aload_n dX10_toldOf_15 rfl (J_getR (k := 4) jcl_X10 dX10_toldOf_16 wf_X10_7 g_96 (Nat.le_of_ble_eq_true rfl) rfl rfl (J_iload_n dX10_toldOf_19 rfl (J_iald dX10_toldOf_20 g_97 (s7 c1 c2) (s8 c1 c2) (J_goto dX10_toldOf_21 (tgt := 68) (by decide) (J_iret dX10_toldOf_68 rfl (k5 c1 c2))))))))))) (fun c => absurd c (by decide)))) (fun c1 => (J_if_ne dX10_toldOf_5 (tgt := 11) (by decide) (fun c => absurd c (by decide)) (fun _ => (J_bipush dX10_toldOf_8 jc_m2 jb_m2 (J_iret dX10_toldOf_10 rfl (k6 c1))))))))))
theorem jsw_X10_told_30 {l : Launch} {z d : Nat} {X : jX} {a : Nat × Nat} {L S : List jV} {μ : jM} {Q : Option jV → jM → Prop} {x : Int} (kd : (x < 0 ∨ 5 < x) → J l z X d mX10_told a 98 L S μ Q) (k0 : x = 0 → J l z X d mX10_told a 68 L S μ Q) (k1 : x = 1 → J l z X d mX10_told a 73 L S μ Q) (k2 : x = 2 → J l z X d mX10_told a 78 L S μ Q) (k3 : x = 3 → J l z X d mX10_told a 83 L S μ Q) (k4 : x = 4 → J l z X d mX10_told a 88 L S μ Q) (k5 : x = 5 → J l z X d mX10_told a 93 L S μ Q) : J l z X d mX10_told a 30 L (jI x :: S) μ Q := by
  refine J_switch (T := fun k => match k with | 0 => 68 | 1 => 73 | 2 => 78 | 3 => 83 | 4 => 88 | _ => 93) dX10_told_30 (tgt := 98) (by decide) (fun k hk => ?_) kd (fun k hk hx => ?_)
  · have hk2 : k < 6 := by omega
    revert hk2
    revert k
    intro k hk hk2
    have hall : ∀ k, k < 6 → ∃ off : Int, (#[38, 43, 48, 53, 58, 63] : Array Int)[k]? = some off ∧ ((30 : Nat) : Int) + off = (((fun k => match k with | 0 => 68 | 1 => 73 | 2 => 78 | 3 => 83 | 4 => 88 | _ => 93 : Nat → Nat) k : Nat) : Int) := by
      intro k hk
      match k, hk with
      | 0, _ => exact ⟨38, rfl, by decide⟩
      | 1, _ => exact ⟨43, rfl, by decide⟩
      | 2, _ => exact ⟨48, rfl, by decide⟩
      | 3, _ => exact ⟨53, rfl, by decide⟩
      | 4, _ => exact ⟨58, rfl, by decide⟩
      | 5, _ => exact ⟨63, rfl, by decide⟩
    exact hall k hk2
  · have hk2 : k < 6 := by omega
    match k, hk2, hx with
    | 0, _, hx => exact k0 (by rw [hx]; rfl)
    | 1, _, hx => exact k1 (by rw [hx]; rfl)
    | 2, _, hx => exact k2 (by rw [hx]; rfl)
    | 3, _, hx => exact k3 (by rw [hx]; rfl)
    | 4, _, hx => exact k4 (by rw [hx]; rfl)
    | 5, _, hx => exact k5 (by rw [hx]; rfl)
theorem b_X10_told_0 {l : Launch} {z d : Nat} {X : jX} {M : Nat → Int → Int} {Q : Option jV → jM → Prop} {x1 : Int}  (s1 : 10 ≤ x1 ∧ x1 ≤ 69 → 0 ≤ x1) (s2 : 10 ≤ x1 ∧ x1 ≤ 69 → jIn ((x1 / 10) - 1)) (k1 : 10 ≤ x1 ∧ x1 ≤ 69 → J l z X (d + 2) mX10_toldOf (0, 0) 0 [jR 96, jI ((x1 / 10) - 1), jI (x1 % 10)] [] (jG, M) (fun r μ => J l z X (d + 3) mX10_told (0, 0) 28 [jR 96, jI x1] (r.toList ++ []) μ Q)) (k2 : ¬ (10 ≤ x1 ∧ x1 ≤ 69) → (x1 < 0 ∨ 5 < x1) → Q (some (jI (-2))) (jG, M)) (k3 : ¬ (10 ≤ x1 ∧ x1 ≤ 69) → x1 = 0 → Q (some (jI (M 96 12))) (jG, M)) (k4 : ¬ (10 ≤ x1 ∧ x1 ≤ 69) → x1 = 1 → Q (some (jI (M 96 0))) (jG, M)) (k5 : ¬ (10 ≤ x1 ∧ x1 ≤ 69) → x1 = 2 → Q (some (jI (M 96 1))) (jG, M)) (k6 : ¬ (10 ≤ x1 ∧ x1 ≤ 69) → x1 = 3 → Q (some (jI (M 96 2))) (jG, M)) (k7 : ¬ (10 ≤ x1 ∧ x1 ≤ 69) → x1 = 4 → Q (some (jI (M 96 3))) (jG, M)) (k8 : ¬ (10 ≤ x1 ∧ x1 ≤ 69) → x1 = 5 → Q (some (jI (M 96 10))) (jG, M)) : J l z X (d + 3) mX10_told (0, 0) 0 [jR 96, jI x1] [] (jG, M) Q :=
  (J_iload_n dX10_told_0 rfl (J_i2l dX10_told_1 (J_ldc2 dX10_told_2 (lw_X10_274) lcl_X10_274 rfl (J_ldc2 dX10_told_5 (lw_X10_310) lcl_X10_310 rfl (J_callS (a1 := (0, 0)) (a2 := (0, 0)) (mm' := mX10_in) (S := []) [jL x1, jL 10, jL 69] md_X10_in is_X10_in dX10_told_8 wm_X10_94 rfl rfl (Nat.le_of_ble_eq_true rfl) (Nat.le_of_ble_eq_true rfl) rfl (c_X10_in   (fun c1 => (J_if_eq dX10_told_11 (tgt := 29) (by decide) (fun c => absurd c (by decide)) (fun _ => (J_aload_n dX10_told_14 rfl (J_iload_n dX10_told_15 rfl (J_bipush dX10_told_16 jc_10 jb_10 (J_idiv dX10_told_18 (s1 c1) (by decide) (J_iconst dX10_told_19 jc_1 (J_isub dX10_told_20 (s2 c1) (J_iload_n dX10_told_21 rfl (J_bipush dX10_told_22 jc_10 jb_10 (J_irem dX10_told_24 (s1 c1) (by decide) (J_callV (a1 := (0, 0)) (a2 := (0, 0)) (mm' := mX10_toldOf) (S := []) [jI ((x1 / 10) - 1), jI (x1 % 10)] md_X10_toldOf im_X10_toldOf se_X10_toldOf dX10_told_25 wm_X10_312 jcl_X10.1 rfl g_96 rfl rfl (Nat.le_of_ble_eq_true rfl) (Nat.le_of_ble_eq_true rfl) rfl (k1 c1)))))))))))))) (fun c1 => (J_if_eq dX10_told_11 (tgt := 29) (by decide) (fun _ => (J_iload_n dX10_told_29 rfl (jsw_X10_told_30 (fun c2 => (J_bipush dX10_told_98 jc_m2 jb_m2 (J_iret dX10_told_100 rfl (k2 c1 c2)))) (fun c2 => (J_aload_n dX10_told_68 rfl (J_getI (k := 12) (kz := 12) jcl_X10 dX10_told_69 wf_X10_124 g_96 (Nat.le_of_ble_eq_true rfl) rfl rfl (J_iret dX10_told_72 rfl (k3 c1 c2))))) (fun c2 => (J_aload_n dX10_told_73 rfl (J_getI (k := 0) (kz := 0) jcl_X10 dX10_told_74 wf_X10_98 g_96 (Nat.le_of_ble_eq_true rfl) rfl rfl (J_iret dX10_told_77 rfl (k4 c1 c2))))) (fun c2 => (J_aload_n dX10_told_78 rfl (J_getI (k := 1) (kz := 1) jcl_X10 dX10_told_79 wf_X10_117 g_96 (Nat.le_of_ble_eq_true rfl) rfl rfl (J_iret dX10_told_82 rfl (k5 c1 c2))))) (fun c2 => (J_aload_n dX10_told_83 rfl (J_getI (k := 2) (kz := 2) jcl_X10 dX10_told_84 wf_X10_85 g_96 (Nat.le_of_ble_eq_true rfl) rfl rfl (J_iret dX10_told_87 rfl (k6 c1 c2))))) (fun c2 => (J_aload_n dX10_told_88 rfl (J_getI (k := 3) (kz := 3) jcl_X10 dX10_told_89 wf_X10_89 g_96 (Nat.le_of_ble_eq_true rfl) rfl rfl (J_iret dX10_told_92 rfl (k7 c1 c2))))) (fun c2 => (J_aload_n dX10_told_93 rfl (J_getI (k := 10) (kz := 10) jcl_X10 dX10_told_94 wf_X10_259 g_96 (Nat.le_of_ble_eq_true rfl) rfl rfl (J_iret dX10_told_97 rfl (k8 c1 c2)))))))) (fun c => absurd c (by decide))))))))))
theorem b_X10_told_28 {l : Launch} {z d : Nat} {X : jX} {M : Nat → Int → Int} {Q : Option jV → jM → Prop} {x1 : Int} {t0 : Int}   (k1 : Q (some (jI t0)) (jG, M)) : J l z X (d + 3) mX10_told (0, 0) 28 [jR 96, jI x1] [jI t0] (jG, M) Q :=
  (J_iret dX10_told_28 rfl k1)
