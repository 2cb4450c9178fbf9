theorem dX3_init_0 : decode cX3_init 0 = .ok (.aload_n 0, 1) := by decide +kernel
theorem dX3_init_1 : decode cX3_init 1 = .ok (.invokespecial 5, 3) := by decide +kernel
theorem dX3_init_4 : decode cX3_init 4 = .ok (.aload_n 0, 1) := by decide +kernel
theorem dX3_init_5 : decode cX3_init 5 = .ok (.iconst 3, 1) := by decide +kernel
theorem dX3_init_6 : decode cX3_init 6 = .ok (.newarray .int, 2) := by decide +kernel
theorem dX3_init_8 : decode cX3_init 8 = .ok (.putfield 11, 3) := by decide +kernel
theorem dX3_init_11 : decode cX3_init 11 = .ok (.aload_n 0, 1) := by decide +kernel
theorem dX3_init_12 : decode cX3_init 12 = .ok (.bipush 21, 2) := by decide +kernel
theorem dX3_init_14 : decode cX3_init 14 = .ok (.bipush 13, 2) := by decide +kernel
theorem dX3_init_16 : decode cX3_init 16 = .ok (.multianewarray 15 2, 4) := by decide +kernel
theorem dX3_init_20 : decode cX3_init 20 = .ok (.putfield 17, 3) := by decide +kernel
theorem dX3_init_23 : decode cX3_init 23 = .ok (.aload_n 0, 1) := by decide +kernel
theorem dX3_init_24 : decode cX3_init 24 = .ok (.bipush 21, 2) := by decide +kernel
theorem dX3_init_26 : decode cX3_init 26 = .ok (.newarray .int, 2) := by decide +kernel
theorem dX3_init_28 : decode cX3_init 28 = .ok (.putfield 20, 3) := by decide +kernel
theorem dX3_init_31 : decode cX3_init 31 = .ok (.aload_n 0, 1) := by decide +kernel
theorem dX3_init_32 : decode cX3_init 32 = .ok (.bipush 18, 2) := by decide +kernel
theorem dX3_init_34 : decode cX3_init 34 = .ok (.bipush 39, 2) := by decide +kernel
theorem dX3_init_36 : decode cX3_init 36 = .ok (.multianewarray 15 2, 4) := by decide +kernel
theorem dX3_init_40 : decode cX3_init 40 = .ok (.putfield 23, 3) := by decide +kernel
theorem dX3_init_43 : decode cX3_init 43 = .ok (.aload_n 0, 1) := by decide +kernel
theorem dX3_init_44 : decode cX3_init 44 = .ok (.sipush 2556, 3) := by decide +kernel
theorem dX3_init_47 : decode cX3_init 47 = .ok (.newarray .int, 2) := by decide +kernel
theorem dX3_init_49 : decode cX3_init 49 = .ok (.putfield 26, 3) := by decide +kernel
theorem dX3_init_52 : decode cX3_init 52 = .ok (.aload_n 0, 1) := by decide +kernel
theorem dX3_init_53 : decode cX3_init 53 = .ok (.bipush 7, 2) := by decide +kernel
theorem dX3_init_55 : decode cX3_init 55 = .ok (.newarray .int, 2) := by decide +kernel
theorem dX3_init_57 : decode cX3_init 57 = .ok (.putfield 29, 3) := by decide +kernel
theorem dX3_init_60 : decode cX3_init 60 = .ok (.aload_n 0, 1) := by decide +kernel
theorem dX3_init_61 : decode cX3_init 61 = .ok (.bipush 18, 2) := by decide +kernel
theorem dX3_init_63 : decode cX3_init 63 = .ok (.newarray .int, 2) := by decide +kernel
theorem dX3_init_65 : decode cX3_init 65 = .ok (.putfield 32, 3) := by decide +kernel
theorem dX3_init_68 : decode cX3_init 68 = .ok (.return_, 1) := by decide +kernel
theorem dX3_solve_0 : decode cX3_solve 0 = .ok (.aload_n 0, 1) := by decide +kernel
theorem dX3_solve_1 : decode cX3_solve 1 = .ok (.iconst 0, 1) := by decide +kernel
theorem dX3_solve_2 : decode cX3_solve 2 = .ok (.bipush 6, 2) := by decide +kernel
theorem dX3_solve_4 : decode cX3_solve 4 = .ok (.iload_n 3, 1) := by decide +kernel
theorem dX3_solve_5 : decode cX3_solve 5 = .ok (.invokestatic 35, 3) := by decide +kernel
theorem dX3_solve_8 : decode cX3_solve 8 = .ok (.invokestatic 41, 3) := by decide +kernel
theorem dX3_solve_11 : decode cX3_solve 11 = .ok (.putfield 44, 3) := by decide +kernel
theorem dX3_solve_14 : decode cX3_solve 14 = .ok (.aload_n 0, 1) := by decide +kernel
theorem dX3_solve_15 : decode cX3_solve 15 = .ok (.iload 4, 2) := by decide +kernel
theorem dX3_solve_17 : decode cX3_solve 17 = .ok (.putfield 48, 3) := by decide +kernel
theorem dX3_solve_20 : decode cX3_solve 20 = .ok (.aload_n 0, 1) := by decide +kernel
theorem dX3_solve_21 : decode cX3_solve 21 = .ok (.iload 5, 2) := by decide +kernel
theorem dX3_solve_23 : decode cX3_solve 23 = .ok (.putfield 51, 3) := by decide +kernel
theorem dX3_solve_26 : decode cX3_solve 26 = .ok (.aload_n 0, 1) := by decide +kernel
theorem dX3_solve_27 : decode cX3_solve 27 = .ok (.aload_n 1, 1) := by decide +kernel
theorem dX3_solve_28 : decode cX3_solve 28 = .ok (.iload_n 2, 1) := by decide +kernel
theorem dX3_solve_29 : decode cX3_solve 29 = .ok (.invokevirtual 54, 3) := by decide +kernel
theorem dX3_solve_32 : decode cX3_solve 32 = .ok (.aload_n 0, 1) := by decide +kernel
theorem dX3_solve_33 : decode cX3_solve 33 = .ok (.aload_n 1, 1) := by decide +kernel
theorem dX3_solve_34 : decode cX3_solve 34 = .ok (.invokevirtual 58, 3) := by decide +kernel
theorem dX3_solve_37 : decode cX3_solve 37 = .ok (.aload_n 0, 1) := by decide +kernel
theorem dX3_solve_38 : decode cX3_solve 38 = .ok (.getfield 44, 3) := by decide +kernel
theorem dX3_solve_41 : decode cX3_solve 41 = .ok (.iconst 1, 1) := by decide +kernel
theorem dX3_solve_42 : decode cX3_solve 42 = .ok (.isub, 1) := by decide +kernel
theorem dX3_solve_43 : decode cX3_solve 43 = .ok (.istore 6, 2) := by decide +kernel
theorem dX3_solve_45 : decode cX3_solve 45 = .ok (.iload 6, 2) := by decide +kernel
theorem dX3_solve_47 : decode cX3_solve 47 = .ok (.ifCond .lt 15, 3) := by decide +kernel
theorem dX3_solve_50 : decode cX3_solve 50 = .ok (.aload_n 0, 1) := by decide +kernel
theorem dX3_solve_51 : decode cX3_solve 51 = .ok (.iload 6, 2) := by decide +kernel
theorem dX3_solve_53 : decode cX3_solve 53 = .ok (.invokevirtual 62, 3) := by decide +kernel
theorem dX3_solve_56 : decode cX3_solve 56 = .ok (.iinc 6 (-1), 3) := by decide +kernel
theorem dX3_solve_59 : decode cX3_solve 59 = .ok (.goto (-14), 3) := by decide +kernel
theorem dX3_solve_62 : decode cX3_solve 62 = .ok (.aload_n 0, 1) := by decide +kernel
theorem dX3_solve_63 : decode cX3_solve 63 = .ok (.iconst 0, 1) := by decide +kernel
theorem dX3_solve_64 : decode cX3_solve 64 = .ok (.iconst 0, 1) := by decide +kernel
theorem dX3_solve_65 : decode cX3_solve 65 = .ok (.iconst 0, 1) := by decide +kernel
theorem dX3_solve_66 : decode cX3_solve 66 = .ok (.iconst 0, 1) := by decide +kernel
theorem dX3_solve_67 : decode cX3_solve 67 = .ok (.invokevirtual 66, 3) := by decide +kernel
theorem dX3_solve_70 : decode cX3_solve 70 = .ok (.istore 6, 2) := by decide +kernel
theorem dX3_solve_72 : decode cX3_solve 72 = .ok (.iload 6, 2) := by decide +kernel
theorem dX3_solve_74 : decode cX3_solve 74 = .ok (.sipush 1000, 3) := by decide +kernel
theorem dX3_solve_77 : decode cX3_solve 77 = .ok (.if_icmp .ge 8, 3) := by decide +kernel
theorem dX3_solve_80 : decode cX3_solve 80 = .ok (.iload 6, 2) := by decide +kernel
theorem dX3_solve_82 : decode cX3_solve 82 = .ok (.goto 5, 3) := by decide +kernel
theorem dX3_solve_85 : decode cX3_solve 85 = .ok (.bipush (-6), 2) := by decide +kernel
theorem dX3_solve_87 : decode cX3_solve 87 = .ok (.ireturn, 1) := by decide +kernel
theorem dX3_seat_0 : decode cX3_seat 0 = .ok (.iconst 0, 1) := by decide +kernel
theorem dX3_seat_1 : decode cX3_seat 1 = .ok (.istore_n 3, 1) := by decide +kernel
theorem dX3_seat_2 : decode cX3_seat 2 = .ok (.iconst 0, 1) := by decide +kernel
theorem dX3_seat_3 : decode cX3_seat 3 = .ok (.istore 4, 2) := by decide +kernel
theorem dX3_seat_5 : decode cX3_seat 5 = .ok (.iload 4, 2) := by decide +kernel
theorem dX3_seat_7 : decode cX3_seat 7 = .ok (.bipush 6, 2) := by decide +kernel
theorem dX3_seat_9 : decode cX3_seat 9 = .ok (.if_icmp .ge 44, 3) := by decide +kernel
theorem dX3_seat_12 : decode cX3_seat 12 = .ok (.iload_n 3, 1) := by decide +kernel
theorem dX3_seat_13 : decode cX3_seat 13 = .ok (.iconst 3, 1) := by decide +kernel
theorem dX3_seat_14 : decode cX3_seat 14 = .ok (.if_icmp .ge 39, 3) := by decide +kernel
theorem dX3_seat_17 : decode cX3_seat 17 = .ok (.iload_n 2, 1) := by decide +kernel
theorem dX3_seat_18 : decode cX3_seat 18 = .ok (.iload 4, 2) := by decide +kernel
theorem dX3_seat_20 : decode cX3_seat 20 = .ok (.ishr, 1) := by decide +kernel
theorem dX3_seat_21 : decode cX3_seat 21 = .ok (.iconst 1, 1) := by decide +kernel
theorem dX3_seat_22 : decode cX3_seat 22 = .ok (.iand, 1) := by decide +kernel
theorem dX3_seat_23 : decode cX3_seat 23 = .ok (.iconst 1, 1) := by decide +kernel
theorem dX3_seat_24 : decode cX3_seat 24 = .ok (.if_icmp .ne 23, 3) := by decide +kernel
theorem dX3_seat_27 : decode cX3_seat 27 = .ok (.aload_n 1, 1) := by decide +kernel
theorem dX3_seat_28 : decode cX3_seat 28 = .ok (.iload 4, 2) := by decide +kernel
theorem dX3_seat_30 : decode cX3_seat 30 = .ok (.invokevirtual 70, 3) := by decide +kernel
theorem dX3_seat_33 : decode cX3_seat 33 = .ok (.ifCond .eq 14, 3) := by decide +kernel
theorem dX3_seat_36 : decode cX3_seat 36 = .ok (.aload_n 0, 1) := by decide +kernel
theorem dX3_seat_37 : decode cX3_seat 37 = .ok (.getfield 11, 3) := by decide +kernel
theorem dX3_seat_40 : decode cX3_seat 40 = .ok (.iload_n 3, 1) := by decide +kernel
theorem dX3_seat_41 : decode cX3_seat 41 = .ok (.iload 4, 2) := by decide +kernel
theorem dX3_seat_43 : decode cX3_seat 43 = .ok (.iastore, 1) := by decide +kernel
theorem dX3_seat_44 : decode cX3_seat 44 = .ok (.iinc 3 1, 3) := by decide +kernel
theorem dX3_seat_47 : decode cX3_seat 47 = .ok (.iinc 4 1, 3) := by decide +kernel
theorem dX3_seat_50 : decode cX3_seat 50 = .ok (.goto (-45), 3) := by decide +kernel
theorem dX3_seat_53 : decode cX3_seat 53 = .ok (.iload_n 3, 1) := by decide +kernel
theorem dX3_seat_54 : decode cX3_seat 54 = .ok (.istore 4, 2) := by decide +kernel
theorem dX3_seat_56 : decode cX3_seat 56 = .ok (.iload 4, 2) := by decide +kernel
theorem dX3_seat_58 : decode cX3_seat 58 = .ok (.iconst 3, 1) := by decide +kernel
theorem dX3_seat_59 : decode cX3_seat 59 = .ok (.if_icmp .ge 18, 3) := by decide +kernel
theorem dX3_seat_62 : decode cX3_seat 62 = .ok (.aload_n 0, 1) := by decide +kernel
theorem dX3_seat_63 : decode cX3_seat 63 = .ok (.getfield 11, 3) := by decide +kernel
theorem dX3_seat_66 : decode cX3_seat 66 = .ok (.iload 4, 2) := by decide +kernel
theorem dX3_seat_68 : decode cX3_seat 68 = .ok (.bipush (-6), 2) := by decide +kernel
theorem dX3_seat_70 : decode cX3_seat 70 = .ok (.iastore, 1) := by decide +kernel
theorem dX3_seat_71 : decode cX3_seat 71 = .ok (.iinc 4 1, 3) := by decide +kernel
theorem dX3_seat_74 : decode cX3_seat 74 = .ok (.goto (-18), 3) := by decide +kernel
theorem dX3_seat_77 : decode cX3_seat 77 = .ok (.return_, 1) := by decide +kernel
theorem dX3_listAges_0 : decode cX3_listAges 0 = .ok (.iconst 0, 1) := by decide +kernel
theorem dX3_listAges_1 : decode cX3_listAges 1 = .ok (.istore_n 2, 1) := by decide +kernel
theorem dX3_listAges_2 : decode cX3_listAges 2 = .ok (.iconst 0, 1) := by decide +kernel
theorem dX3_listAges_3 : decode cX3_listAges 3 = .ok (.istore_n 3, 1) := by decide +kernel
theorem dX3_listAges_4 : decode cX3_listAges 4 = .ok (.iload_n 3, 1) := by decide +kernel
theorem dX3_listAges_5 : decode cX3_listAges 5 = .ok (.aload_n 0, 1) := by decide +kernel
theorem dX3_listAges_6 : decode cX3_listAges 6 = .ok (.getfield 44, 3) := by decide +kernel
theorem dX3_listAges_9 : decode cX3_listAges 9 = .ok (.if_icmp .gt 129, 3) := by decide +kernel
theorem dX3_listAges_12 : decode cX3_listAges 12 = .ok (.iload_n 3, 1) := by decide +kernel
theorem dX3_listAges_13 : decode cX3_listAges 13 = .ok (.bipush 6, 2) := by decide +kernel
theorem dX3_listAges_15 : decode cX3_listAges 15 = .ok (.if_icmp .gt 123, 3) := by decide +kernel
theorem dX3_listAges_18 : decode cX3_listAges 18 = .ok (.iconst 1, 1) := by decide +kernel
theorem dX3_listAges_19 : decode cX3_listAges 19 = .ok (.istore 4, 2) := by decide +kernel
theorem dX3_listAges_21 : decode cX3_listAges 21 = .ok (.iconst 0, 1) := by decide +kernel
theorem dX3_listAges_22 : decode cX3_listAges 22 = .ok (.istore 5, 2) := by decide +kernel
theorem dX3_listAges_24 : decode cX3_listAges 24 = .ok (.iload 5, 2) := by decide +kernel
theorem dX3_listAges_26 : decode cX3_listAges 26 = .ok (.iconst 3, 1) := by decide +kernel
theorem dX3_listAges_27 : decode cX3_listAges 27 = .ok (.if_icmp .ge 93, 3) := by decide +kernel
theorem dX3_listAges_30 : decode cX3_listAges 30 = .ok (.iload_n 3, 1) := by decide +kernel
theorem dX3_listAges_31 : decode cX3_listAges 31 = .ok (.iconst 3, 1) := by decide +kernel
theorem dX3_listAges_32 : decode cX3_listAges 32 = .ok (.imul, 1) := by decide +kernel
theorem dX3_listAges_33 : decode cX3_listAges 33 = .ok (.iload 5, 2) := by decide +kernel
theorem dX3_listAges_35 : decode cX3_listAges 35 = .ok (.iadd, 1) := by decide +kernel
theorem dX3_listAges_36 : decode cX3_listAges 36 = .ok (.istore 6, 2) := by decide +kernel
theorem dX3_listAges_38 : decode cX3_listAges 38 = .ok (.iload_n 3, 1) := by decide +kernel
theorem dX3_listAges_39 : decode cX3_listAges 39 = .ok (.ifCond .ne 53, 3) := by decide +kernel
theorem dX3_listAges_42 : decode cX3_listAges 42 = .ok (.aload_n 0, 1) := by decide +kernel
theorem dX3_listAges_43 : decode cX3_listAges 43 = .ok (.getfield 17, 3) := by decide +kernel
theorem dX3_listAges_46 : decode cX3_listAges 46 = .ok (.iload 6, 2) := by decide +kernel
theorem dX3_listAges_48 : decode cX3_listAges 48 = .ok (.aaload, 1) := by decide +kernel
theorem dX3_listAges_49 : decode cX3_listAges 49 = .ok (.iconst 0, 1) := by decide +kernel
theorem dX3_listAges_50 : decode cX3_listAges 50 = .ok (.aload_n 1, 1) := by decide +kernel
theorem dX3_listAges_51 : decode cX3_listAges 51 = .ok (.aload_n 0, 1) := by decide +kernel
theorem dX3_listAges_52 : decode cX3_listAges 52 = .ok (.getfield 11, 3) := by decide +kernel
theorem dX3_listAges_55 : decode cX3_listAges 55 = .ok (.iload 5, 2) := by decide +kernel
theorem dX3_listAges_57 : decode cX3_listAges 57 = .ok (.iaload, 1) := by decide +kernel
theorem dX3_listAges_58 : decode cX3_listAges 58 = .ok (.invokevirtual 70, 3) := by decide +kernel
theorem dX3_listAges_61 : decode cX3_listAges 61 = .ok (.ifCond .eq 18, 3) := by decide +kernel
theorem dX3_listAges_64 : decode cX3_listAges 64 = .ok (.aload_n 1, 1) := by decide +kernel
theorem dX3_listAges_65 : decode cX3_listAges 65 = .ok (.getfield 76, 3) := by decide +kernel
theorem dX3_listAges_68 : decode cX3_listAges 68 = .ok (.aload_n 0, 1) := by decide +kernel
theorem dX3_listAges_69 : decode cX3_listAges 69 = .ok (.getfield 11, 3) := by decide +kernel
theorem dX3_listAges_72 : decode cX3_listAges 72 = .ok (.iload 5, 2) := by decide +kernel
theorem dX3_listAges_74 : decode cX3_listAges 74 = .ok (.iaload, 1) := by decide +kernel
theorem dX3_listAges_75 : decode cX3_listAges 75 = .ok (.iaload, 1) := by decide +kernel
theorem dX3_listAges_76 : decode cX3_listAges 76 = .ok (.goto 4, 3) := by decide +kernel
theorem dX3_listAges_79 : decode cX3_listAges 79 = .ok (.iconst 0, 1) := by decide +kernel
theorem dX3_listAges_80 : decode cX3_listAges 80 = .ok (.iastore, 1) := by decide +kernel
theorem dX3_listAges_81 : decode cX3_listAges 81 = .ok (.aload_n 0, 1) := by decide +kernel
theorem dX3_listAges_82 : decode cX3_listAges 82 = .ok (.getfield 20, 3) := by decide +kernel
theorem dX3_listAges_85 : decode cX3_listAges 85 = .ok (.iload 6, 2) := by decide +kernel
theorem dX3_listAges_87 : decode cX3_listAges 87 = .ok (.iconst 1, 1) := by decide +kernel
theorem dX3_listAges_88 : decode cX3_listAges 88 = .ok (.iastore, 1) := by decide +kernel
theorem dX3_listAges_89 : decode cX3_listAges 89 = .ok (.goto 13, 3) := by decide +kernel
theorem dX3_listAges_92 : decode cX3_listAges 92 = .ok (.aload_n 0, 1) := by decide +kernel
theorem dX3_listAges_93 : decode cX3_listAges 93 = .ok (.aload_n 1, 1) := by decide +kernel
theorem dX3_listAges_94 : decode cX3_listAges 94 = .ok (.iload_n 3, 1) := by decide +kernel
theorem dX3_listAges_95 : decode cX3_listAges 95 = .ok (.iconst 1, 1) := by decide +kernel
theorem dX3_listAges_96 : decode cX3_listAges 96 = .ok (.isub, 1) := by decide +kernel
theorem dX3_listAges_97 : decode cX3_listAges 97 = .ok (.iload 5, 2) := by decide +kernel
theorem dX3_listAges_99 : decode cX3_listAges 99 = .ok (.invokevirtual 79, 3) := by decide +kernel
theorem dX3_listAges_102 : decode cX3_listAges 102 = .ok (.iload 4, 2) := by decide +kernel
theorem dX3_listAges_104 : decode cX3_listAges 104 = .ok (.aload_n 0, 1) := by decide +kernel
theorem dX3_listAges_105 : decode cX3_listAges 105 = .ok (.getfield 20, 3) := by decide +kernel
theorem dX3_listAges_108 : decode cX3_listAges 108 = .ok (.iload 6, 2) := by decide +kernel
theorem dX3_listAges_110 : decode cX3_listAges 110 = .ok (.iaload, 1) := by decide +kernel
theorem dX3_listAges_111 : decode cX3_listAges 111 = .ok (.imul, 1) := by decide +kernel
theorem dX3_listAges_112 : decode cX3_listAges 112 = .ok (.istore 4, 2) := by decide +kernel
theorem dX3_listAges_114 : decode cX3_listAges 114 = .ok (.iinc 5 1, 3) := by decide +kernel
theorem dX3_listAges_117 : decode cX3_listAges 117 = .ok (.goto (-93), 3) := by decide +kernel
theorem dX3_listAges_120 : decode cX3_listAges 120 = .ok (.aload_n 0, 1) := by decide +kernel
theorem dX3_listAges_121 : decode cX3_listAges 121 = .ok (.getfield 29, 3) := by decide +kernel
theorem dX3_listAges_124 : decode cX3_listAges 124 = .ok (.iload_n 3, 1) := by decide +kernel
theorem dX3_listAges_125 : decode cX3_listAges 125 = .ok (.iload_n 2, 1) := by decide +kernel
theorem dX3_listAges_126 : decode cX3_listAges 126 = .ok (.iastore, 1) := by decide +kernel
theorem dX3_listAges_127 : decode cX3_listAges 127 = .ok (.iload_n 2, 1) := by decide +kernel
theorem dX3_listAges_128 : decode cX3_listAges 128 = .ok (.iload 4, 2) := by decide +kernel
theorem dX3_listAges_130 : decode cX3_listAges 130 = .ok (.iadd, 1) := by decide +kernel
theorem dX3_listAges_131 : decode cX3_listAges 131 = .ok (.istore_n 2, 1) := by decide +kernel
theorem dX3_listAges_132 : decode cX3_listAges 132 = .ok (.iinc 3 1, 3) := by decide +kernel
theorem dX3_listAges_135 : decode cX3_listAges 135 = .ok (.goto (-131), 3) := by decide +kernel
theorem dX3_listAges_138 : decode cX3_listAges 138 = .ok (.return_, 1) := by decide +kernel
theorem dX3_listNext_0 : decode cX3_listNext 0 = .ok (.iload_n 2, 1) := by decide +kernel
theorem dX3_listNext_1 : decode cX3_listNext 1 = .ok (.iconst 3, 1) := by decide +kernel
theorem dX3_listNext_2 : decode cX3_listNext 2 = .ok (.imul, 1) := by decide +kernel
theorem dX3_listNext_3 : decode cX3_listNext 3 = .ok (.iload_n 3, 1) := by decide +kernel
theorem dX3_listNext_4 : decode cX3_listNext 4 = .ok (.iadd, 1) := by decide +kernel
theorem dX3_listNext_5 : decode cX3_listNext 5 = .ok (.istore 4, 2) := by decide +kernel
theorem dX3_listNext_7 : decode cX3_listNext 7 = .ok (.iload_n 2, 1) := by decide +kernel
theorem dX3_listNext_8 : decode cX3_listNext 8 = .ok (.ifCond .lt 22, 3) := by decide +kernel
theorem dX3_listNext_11 : decode cX3_listNext 11 = .ok (.iload_n 3, 1) := by decide +kernel
theorem dX3_listNext_12 : decode cX3_listNext 12 = .ok (.ifCond .lt 18, 3) := by decide +kernel
theorem dX3_listNext_15 : decode cX3_listNext 15 = .ok (.iload_n 3, 1) := by decide +kernel
theorem dX3_listNext_16 : decode cX3_listNext 16 = .ok (.iconst 3, 1) := by decide +kernel
theorem dX3_listNext_17 : decode cX3_listNext 17 = .ok (.if_icmp .ge 13, 3) := by decide +kernel
theorem dX3_listNext_20 : decode cX3_listNext 20 = .ok (.iload 4, 2) := by decide +kernel
theorem dX3_listNext_22 : decode cX3_listNext 22 = .ok (.aload_n 0, 1) := by decide +kernel
theorem dX3_listNext_23 : decode cX3_listNext 23 = .ok (.getfield 23, 3) := by decide +kernel
theorem dX3_listNext_26 : decode cX3_listNext 26 = .ok (.arraylength, 1) := by decide +kernel
theorem dX3_listNext_27 : decode cX3_listNext 27 = .ok (.if_icmp .lt 4, 3) := by decide +kernel
theorem dX3_listNext_30 : decode cX3_listNext 30 = .ok (.return_, 1) := by decide +kernel
theorem dX3_listNext_31 : decode cX3_listNext 31 = .ok (.aload_n 0, 1) := by decide +kernel
theorem dX3_listNext_32 : decode cX3_listNext 32 = .ok (.getfield 20, 3) := by decide +kernel
theorem dX3_listNext_35 : decode cX3_listNext 35 = .ok (.iload 4, 2) := by decide +kernel
theorem dX3_listNext_37 : decode cX3_listNext 37 = .ok (.iconst 3, 1) := by decide +kernel
theorem dX3_listNext_38 : decode cX3_listNext 38 = .ok (.iadd, 1) := by decide +kernel
theorem dX3_listNext_39 : decode cX3_listNext 39 = .ok (.iconst 0, 1) := by decide +kernel
theorem dX3_listNext_40 : decode cX3_listNext 40 = .ok (.iastore, 1) := by decide +kernel
theorem dX3_listNext_41 : decode cX3_listNext 41 = .ok (.iconst 0, 1) := by decide +kernel
theorem dX3_listNext_42 : decode cX3_listNext 42 = .ok (.istore 5, 2) := by decide +kernel
theorem dX3_listNext_44 : decode cX3_listNext 44 = .ok (.iload 5, 2) := by decide +kernel
theorem dX3_listNext_46 : decode cX3_listNext 46 = .ok (.aload_n 0, 1) := by decide +kernel
theorem dX3_listNext_47 : decode cX3_listNext 47 = .ok (.getfield 20, 3) := by decide +kernel
theorem dX3_listNext_50 : decode cX3_listNext 50 = .ok (.iload 4, 2) := by decide +kernel
theorem dX3_listNext_52 : decode cX3_listNext 52 = .ok (.iaload, 1) := by decide +kernel
theorem dX3_listNext_53 : decode cX3_listNext 53 = .ok (.if_icmp .ge 164, 3) := by decide +kernel
theorem dX3_listNext_56 : decode cX3_listNext 56 = .ok (.iload 5, 2) := by decide +kernel
theorem dX3_listNext_58 : decode cX3_listNext 58 = .ok (.bipush 13, 2) := by decide +kernel
theorem dX3_listNext_60 : decode cX3_listNext 60 = .ok (.if_icmp .ge 157, 3) := by decide +kernel
theorem dX3_listNext_63 : decode cX3_listNext 63 = .ok (.iconst 0, 1) := by decide +kernel
theorem dX3_listNext_64 : decode cX3_listNext 64 = .ok (.istore 6, 2) := by decide +kernel
theorem dX3_listNext_66 : decode cX3_listNext 66 = .ok (.iload 6, 2) := by decide +kernel
theorem dX3_listNext_68 : decode cX3_listNext 68 = .ok (.iconst 3, 1) := by decide +kernel
theorem dX3_listNext_69 : decode cX3_listNext 69 = .ok (.if_icmp .ge 142, 3) := by decide +kernel
theorem dX3_listNext_72 : decode cX3_listNext 72 = .ok (.iload 6, 2) := by decide +kernel
theorem dX3_listNext_74 : decode cX3_listNext 74 = .ok (.ifCond .eq 33, 3) := by decide +kernel
theorem dX3_listNext_77 : decode cX3_listNext 77 = .ok (.aload_n 0, 1) := by decide +kernel
theorem dX3_listNext_78 : decode cX3_listNext 78 = .ok (.aload_n 1, 1) := by decide +kernel
theorem dX3_listNext_79 : decode cX3_listNext 79 = .ok (.aload_n 0, 1) := by decide +kernel
theorem dX3_listNext_80 : decode cX3_listNext 80 = .ok (.getfield 11, 3) := by decide +kernel
theorem dX3_listNext_83 : decode cX3_listNext 83 = .ok (.iload_n 3, 1) := by decide +kernel
theorem dX3_listNext_84 : decode cX3_listNext 84 = .ok (.iaload, 1) := by decide +kernel
theorem dX3_listNext_85 : decode cX3_listNext 85 = .ok (.aload_n 0, 1) := by decide +kernel
theorem dX3_listNext_86 : decode cX3_listNext 86 = .ok (.getfield 17, 3) := by decide +kernel
theorem dX3_listNext_89 : decode cX3_listNext 89 = .ok (.iload 4, 2) := by decide +kernel
theorem dX3_listNext_91 : decode cX3_listNext 91 = .ok (.aaload, 1) := by decide +kernel
theorem dX3_listNext_92 : decode cX3_listNext 92 = .ok (.iload 5, 2) := by decide +kernel
theorem dX3_listNext_94 : decode cX3_listNext 94 = .ok (.iaload, 1) := by decide +kernel
theorem dX3_listNext_95 : decode cX3_listNext 95 = .ok (.aload_n 0, 1) := by decide +kernel
theorem dX3_listNext_96 : decode cX3_listNext 96 = .ok (.getfield 44, 3) := by decide +kernel
theorem dX3_listNext_99 : decode cX3_listNext 99 = .ok (.iload_n 2, 1) := by decide +kernel
theorem dX3_listNext_100 : decode cX3_listNext 100 = .ok (.isub, 1) := by decide +kernel
theorem dX3_listNext_101 : decode cX3_listNext 101 = .ok (.invokevirtual 83, 3) := by decide +kernel
theorem dX3_listNext_104 : decode cX3_listNext 104 = .ok (.ifCond .ne 7, 3) := by decide +kernel
theorem dX3_listNext_107 : decode cX3_listNext 107 = .ok (.iconst 1, 1) := by decide +kernel
theorem dX3_listNext_108 : decode cX3_listNext 108 = .ok (.goto 4, 3) := by decide +kernel
theorem dX3_listNext_111 : decode cX3_listNext 111 = .ok (.iconst 0, 1) := by decide +kernel
theorem dX3_listNext_112 : decode cX3_listNext 112 = .ok (.istore 7, 2) := by decide +kernel
theorem dX3_listNext_114 : decode cX3_listNext 114 = .ok (.aload_n 1, 1) := by decide +kernel
theorem dX3_listNext_115 : decode cX3_listNext 115 = .ok (.aload_n 0, 1) := by decide +kernel
theorem dX3_listNext_116 : decode cX3_listNext 116 = .ok (.getfield 11, 3) := by decide +kernel
theorem dX3_listNext_119 : decode cX3_listNext 119 = .ok (.iload_n 3, 1) := by decide +kernel
theorem dX3_listNext_120 : decode cX3_listNext 120 = .ok (.iaload, 1) := by decide +kernel
theorem dX3_listNext_121 : decode cX3_listNext 121 = .ok (.aload_n 0, 1) := by decide +kernel
theorem dX3_listNext_122 : decode cX3_listNext 122 = .ok (.getfield 17, 3) := by decide +kernel
theorem dX3_listNext_125 : decode cX3_listNext 125 = .ok (.iload 4, 2) := by decide +kernel
theorem dX3_listNext_127 : decode cX3_listNext 127 = .ok (.aaload, 1) := by decide +kernel
theorem dX3_listNext_128 : decode cX3_listNext 128 = .ok (.iload 5, 2) := by decide +kernel
theorem dX3_listNext_130 : decode cX3_listNext 130 = .ok (.iaload, 1) := by decide +kernel
theorem dX3_listNext_131 : decode cX3_listNext 131 = .ok (.iload 6, 2) := by decide +kernel
theorem dX3_listNext_133 : decode cX3_listNext 133 = .ok (.invokevirtual 87, 3) := by decide +kernel
theorem dX3_listNext_136 : decode cX3_listNext 136 = .ok (.istore 8, 2) := by decide +kernel
theorem dX3_listNext_138 : decode cX3_listNext 138 = .ok (.iload 7, 2) := by decide +kernel
theorem dX3_listNext_140 : decode cX3_listNext 140 = .ok (.ifCond .eq 27, 3) := by decide +kernel
theorem dX3_listNext_143 : decode cX3_listNext 143 = .ok (.iload 8, 2) := by decide +kernel
theorem dX3_listNext_145 : decode cX3_listNext 145 = .ok (.aload_n 0, 1) := by decide +kernel
theorem dX3_listNext_146 : decode cX3_listNext 146 = .ok (.getfield 51, 3) := by decide +kernel
theorem dX3_listNext_149 : decode cX3_listNext 149 = .ok (.if_icmp .le 14, 3) := by decide +kernel
theorem dX3_listNext_152 : decode cX3_listNext 152 = .ok (.aload_n 0, 1) := by decide +kernel
theorem dX3_listNext_153 : decode cX3_listNext 153 = .ok (.getfield 11, 3) := by decide +kernel
theorem dX3_listNext_156 : decode cX3_listNext 156 = .ok (.iload_n 3, 1) := by decide +kernel
theorem dX3_listNext_157 : decode cX3_listNext 157 = .ok (.iaload, 1) := by decide +kernel
theorem dX3_listNext_158 : decode cX3_listNext 158 = .ok (.bipush (-6), 2) := by decide +kernel
theorem dX3_listNext_160 : decode cX3_listNext 160 = .ok (.if_icmp .ne 7, 3) := by decide +kernel
theorem dX3_listNext_163 : decode cX3_listNext 163 = .ok (.iconst 1, 1) := by decide +kernel
theorem dX3_listNext_164 : decode cX3_listNext 164 = .ok (.goto 4, 3) := by decide +kernel
theorem dX3_listNext_167 : decode cX3_listNext 167 = .ok (.iconst 0, 1) := by decide +kernel
theorem dX3_listNext_168 : decode cX3_listNext 168 = .ok (.istore 9, 2) := by decide +kernel
theorem dX3_listNext_170 : decode cX3_listNext 170 = .ok (.aload_n 0, 1) := by decide +kernel
theorem dX3_listNext_171 : decode cX3_listNext 171 = .ok (.getfield 23, 3) := by decide +kernel
theorem dX3_listNext_174 : decode cX3_listNext 174 = .ok (.iload 4, 2) := by decide +kernel
theorem dX3_listNext_176 : decode cX3_listNext 176 = .ok (.aaload, 1) := by decide +kernel
theorem dX3_listNext_177 : decode cX3_listNext 177 = .ok (.iload 5, 2) := by decide +kernel
theorem dX3_listNext_179 : decode cX3_listNext 179 = .ok (.iconst 3, 1) := by decide +kernel
theorem dX3_listNext_180 : decode cX3_listNext 180 = .ok (.imul, 1) := by decide +kernel
theorem dX3_listNext_181 : decode cX3_listNext 181 = .ok (.iload 6, 2) := by decide +kernel
theorem dX3_listNext_183 : decode cX3_listNext 183 = .ok (.iadd, 1) := by decide +kernel
theorem dX3_listNext_184 : decode cX3_listNext 184 = .ok (.iload 9, 2) := by decide +kernel
theorem dX3_listNext_186 : decode cX3_listNext 186 = .ok (.ifCond .eq 16, 3) := by decide +kernel
theorem dX3_listNext_189 : decode cX3_listNext 189 = .ok (.aload_n 0, 1) := by decide +kernel
theorem dX3_listNext_190 : decode cX3_listNext 190 = .ok (.iload 4, 2) := by decide +kernel
theorem dX3_listNext_192 : decode cX3_listNext 192 = .ok (.iconst 3, 1) := by decide +kernel
theorem dX3_listNext_193 : decode cX3_listNext 193 = .ok (.iadd, 1) := by decide +kernel
theorem dX3_listNext_194 : decode cX3_listNext 194 = .ok (.iload 8, 2) := by decide +kernel
theorem dX3_listNext_196 : decode cX3_listNext 196 = .ok (.invokevirtual 91, 3) := by decide +kernel
theorem dX3_listNext_199 : decode cX3_listNext 199 = .ok (.goto 5, 3) := by decide +kernel
theorem dX3_listNext_202 : decode cX3_listNext 202 = .ok (.bipush (-6), 2) := by decide +kernel
theorem dX3_listNext_204 : decode cX3_listNext 204 = .ok (.iastore, 1) := by decide +kernel
theorem dX3_listNext_205 : decode cX3_listNext 205 = .ok (.iinc 6 1, 3) := by decide +kernel
theorem dX3_listNext_208 : decode cX3_listNext 208 = .ok (.goto (-142), 3) := by decide +kernel
theorem dX3_listNext_211 : decode cX3_listNext 211 = .ok (.iinc 5 1, 3) := by decide +kernel
theorem dX3_listNext_214 : decode cX3_listNext 214 = .ok (.goto (-170), 3) := by decide +kernel
theorem dX3_listNext_217 : decode cX3_listNext 217 = .ok (.return_, 1) := by decide +kernel
theorem dX3_lastsRest_0 : decode cX3_lastsRest 0 = .ok (.aload_n 1, 1) := by decide +kernel
theorem dX3_lastsRest_1 : decode cX3_lastsRest 1 = .ok (.iload_n 2, 1) := by decide +kernel
theorem dX3_lastsRest_2 : decode cX3_lastsRest 2 = .ok (.invokevirtual 70, 3) := by decide +kernel
theorem dX3_lastsRest_5 : decode cX3_lastsRest 5 = .ok (.ifCond .eq 26, 3) := by decide +kernel
theorem dX3_lastsRest_8 : decode cX3_lastsRest 8 = .ok (.bipush 99, 2) := by decide +kernel
theorem dX3_lastsRest_10 : decode cX3_lastsRest 10 = .ok (.iload_n 3, 1) := by decide +kernel
theorem dX3_lastsRest_11 : decode cX3_lastsRest 11 = .ok (.iload 4, 2) := by decide +kernel
theorem dX3_lastsRest_13 : decode cX3_lastsRest 13 = .ok (.aload_n 1, 1) := by decide +kernel
theorem dX3_lastsRest_14 : decode cX3_lastsRest 14 = .ok (.getfield 94, 3) := by decide +kernel
theorem dX3_lastsRest_17 : decode cX3_lastsRest 17 = .ok (.iload_n 2, 1) := by decide +kernel
theorem dX3_lastsRest_18 : decode cX3_lastsRest 18 = .ok (.iaload, 1) := by decide +kernel
theorem dX3_lastsRest_19 : decode cX3_lastsRest 19 = .ok (.imul, 1) := by decide +kernel
theorem dX3_lastsRest_20 : decode cX3_lastsRest 20 = .ok (.iadd, 1) := by decide +kernel
theorem dX3_lastsRest_21 : decode cX3_lastsRest 21 = .ok (.invokestatic 35, 3) := by decide +kernel
theorem dX3_lastsRest_24 : decode cX3_lastsRest 24 = .ok (.aload_n 0, 1) := by decide +kernel
theorem dX3_lastsRest_25 : decode cX3_lastsRest 25 = .ok (.getfield 51, 3) := by decide +kernel
theorem dX3_lastsRest_28 : decode cX3_lastsRest 28 = .ok (.if_icmp .gt 7, 3) := by decide +kernel
theorem dX3_lastsRest_31 : decode cX3_lastsRest 31 = .ok (.iconst 1, 1) := by decide +kernel
theorem dX3_lastsRest_32 : decode cX3_lastsRest 32 = .ok (.goto 4, 3) := by decide +kernel
theorem dX3_lastsRest_35 : decode cX3_lastsRest 35 = .ok (.iconst 0, 1) := by decide +kernel
theorem dX3_lastsRest_36 : decode cX3_lastsRest 36 = .ok (.ireturn, 1) := by decide +kernel
theorem dX3_findAge_0 : decode cX3_findAge 0 = .ok (.iload_n 1, 1) := by decide +kernel
theorem dX3_findAge_1 : decode cX3_findAge 1 = .ok (.ifCond .lt 12, 3) := by decide +kernel
theorem dX3_findAge_4 : decode cX3_findAge 4 = .ok (.iload_n 1, 1) := by decide +kernel
theorem dX3_findAge_5 : decode cX3_findAge 5 = .ok (.aload_n 0, 1) := by decide +kernel
theorem dX3_findAge_6 : decode cX3_findAge 6 = .ok (.getfield 17, 3) := by decide +kernel
theorem dX3_findAge_9 : decode cX3_findAge 9 = .ok (.arraylength, 1) := by decide +kernel
theorem dX3_findAge_10 : decode cX3_findAge 10 = .ok (.if_icmp .lt 6, 3) := by decide +kernel
theorem dX3_findAge_13 : decode cX3_findAge 13 = .ok (.bipush (-6), 2) := by decide +kernel
theorem dX3_findAge_15 : decode cX3_findAge 15 = .ok (.ireturn, 1) := by decide +kernel
theorem dX3_findAge_16 : decode cX3_findAge 16 = .ok (.aload_n 0, 1) := by decide +kernel
theorem dX3_findAge_17 : decode cX3_findAge 17 = .ok (.getfield 20, 3) := by decide +kernel
theorem dX3_findAge_20 : decode cX3_findAge 20 = .ok (.iload_n 1, 1) := by decide +kernel
theorem dX3_findAge_21 : decode cX3_findAge 21 = .ok (.iaload, 1) := by decide +kernel
theorem dX3_findAge_22 : decode cX3_findAge 22 = .ok (.istore_n 3, 1) := by decide +kernel
theorem dX3_findAge_23 : decode cX3_findAge 23 = .ok (.iconst 0, 1) := by decide +kernel
theorem dX3_findAge_24 : decode cX3_findAge 24 = .ok (.istore 4, 2) := by decide +kernel
theorem dX3_findAge_26 : decode cX3_findAge 26 = .ok (.iload 4, 2) := by decide +kernel
theorem dX3_findAge_28 : decode cX3_findAge 28 = .ok (.iload_n 3, 1) := by decide +kernel
theorem dX3_findAge_29 : decode cX3_findAge 29 = .ok (.if_icmp .ge 32, 3) := by decide +kernel
theorem dX3_findAge_32 : decode cX3_findAge 32 = .ok (.iload 4, 2) := by decide +kernel
theorem dX3_findAge_34 : decode cX3_findAge 34 = .ok (.bipush 13, 2) := by decide +kernel
theorem dX3_findAge_36 : decode cX3_findAge 36 = .ok (.if_icmp .ge 25, 3) := by decide +kernel
theorem dX3_findAge_39 : decode cX3_findAge 39 = .ok (.aload_n 0, 1) := by decide +kernel
theorem dX3_findAge_40 : decode cX3_findAge 40 = .ok (.getfield 17, 3) := by decide +kernel
theorem dX3_findAge_43 : decode cX3_findAge 43 = .ok (.iload_n 1, 1) := by decide +kernel
theorem dX3_findAge_44 : decode cX3_findAge 44 = .ok (.aaload, 1) := by decide +kernel
theorem dX3_findAge_45 : decode cX3_findAge 45 = .ok (.iload 4, 2) := by decide +kernel
theorem dX3_findAge_47 : decode cX3_findAge 47 = .ok (.iaload, 1) := by decide +kernel
theorem dX3_findAge_48 : decode cX3_findAge 48 = .ok (.iload_n 2, 1) := by decide +kernel
theorem dX3_findAge_49 : decode cX3_findAge 49 = .ok (.if_icmp .ne 6, 3) := by decide +kernel
theorem dX3_findAge_52 : decode cX3_findAge 52 = .ok (.iload 4, 2) := by decide +kernel
theorem dX3_findAge_54 : decode cX3_findAge 54 = .ok (.ireturn, 1) := by decide +kernel
theorem dX3_findAge_55 : decode cX3_findAge 55 = .ok (.iinc 4 1, 3) := by decide +kernel
theorem dX3_findAge_58 : decode cX3_findAge 58 = .ok (.goto (-32), 3) := by decide +kernel
theorem dX3_findAge_61 : decode cX3_findAge 61 = .ok (.iload_n 3, 1) := by decide +kernel
theorem dX3_findAge_62 : decode cX3_findAge 62 = .ok (.ifCond .lt 9, 3) := by decide +kernel
theorem dX3_findAge_65 : decode cX3_findAge 65 = .ok (.iload_n 3, 1) := by decide +kernel
theorem dX3_findAge_66 : decode cX3_findAge 66 = .ok (.bipush 13, 2) := by decide +kernel
theorem dX3_findAge_68 : decode cX3_findAge 68 = .ok (.if_icmp .lt 6, 3) := by decide +kernel
theorem dX3_findAge_71 : decode cX3_findAge 71 = .ok (.bipush (-6), 2) := by decide +kernel
theorem dX3_findAge_73 : decode cX3_findAge 73 = .ok (.ireturn, 1) := by decide +kernel
theorem dX3_findAge_74 : decode cX3_findAge 74 = .ok (.aload_n 0, 1) := by decide +kernel
theorem dX3_findAge_75 : decode cX3_findAge 75 = .ok (.getfield 17, 3) := by decide +kernel
theorem dX3_findAge_78 : decode cX3_findAge 78 = .ok (.iload_n 1, 1) := by decide +kernel
theorem dX3_findAge_79 : decode cX3_findAge 79 = .ok (.aaload, 1) := by decide +kernel
theorem dX3_findAge_80 : decode cX3_findAge 80 = .ok (.iload_n 3, 1) := by decide +kernel
theorem dX3_findAge_81 : decode cX3_findAge 81 = .ok (.iload_n 2, 1) := by decide +kernel
theorem dX3_findAge_82 : decode cX3_findAge 82 = .ok (.iastore, 1) := by decide +kernel
theorem dX3_findAge_83 : decode cX3_findAge 83 = .ok (.aload_n 0, 1) := by decide +kernel
theorem dX3_findAge_84 : decode cX3_findAge 84 = .ok (.getfield 20, 3) := by decide +kernel
theorem dX3_findAge_87 : decode cX3_findAge 87 = .ok (.iload_n 1, 1) := by decide +kernel
theorem dX3_findAge_88 : decode cX3_findAge 88 = .ok (.dup2, 1) := by decide +kernel
theorem dX3_findAge_89 : decode cX3_findAge 89 = .ok (.iaload, 1) := by decide +kernel
theorem dX3_findAge_90 : decode cX3_findAge 90 = .ok (.iconst 1, 1) := by decide +kernel
theorem dX3_findAge_91 : decode cX3_findAge 91 = .ok (.iadd, 1) := by decide +kernel
theorem dX3_findAge_92 : decode cX3_findAge 92 = .ok (.iastore, 1) := by decide +kernel
theorem dX3_findAge_93 : decode cX3_findAge 93 = .ok (.iload_n 3, 1) := by decide +kernel
theorem dX3_findAge_94 : decode cX3_findAge 94 = .ok (.ireturn, 1) := by decide +kernel
theorem dX3_countOf_0 : decode cX3_countOf 0 = .ok (.iload_n 1, 1) := by decide +kernel
theorem dX3_countOf_1 : decode cX3_countOf 1 = .ok (.iconst 3, 1) := by decide +kernel
theorem dX3_countOf_2 : decode cX3_countOf 2 = .ok (.imul, 1) := by decide +kernel
theorem dX3_countOf_3 : decode cX3_countOf 3 = .ok (.iload_n 2, 1) := by decide +kernel
theorem dX3_countOf_4 : decode cX3_countOf 4 = .ok (.iadd, 1) := by decide +kernel
theorem dX3_countOf_5 : decode cX3_countOf 5 = .ok (.istore_n 3, 1) := by decide +kernel
theorem dX3_countOf_6 : decode cX3_countOf 6 = .ok (.iload_n 3, 1) := by decide +kernel
theorem dX3_countOf_7 : decode cX3_countOf 7 = .ok (.ifCond .lt 21, 3) := by decide +kernel
theorem dX3_countOf_10 : decode cX3_countOf 10 = .ok (.iload_n 3, 1) := by decide +kernel
theorem dX3_countOf_11 : decode cX3_countOf 11 = .ok (.aload_n 0, 1) := by decide +kernel
theorem dX3_countOf_12 : decode cX3_countOf 12 = .ok (.getfield 20, 3) := by decide +kernel
theorem dX3_countOf_15 : decode cX3_countOf 15 = .ok (.arraylength, 1) := by decide +kernel
theorem dX3_countOf_16 : decode cX3_countOf 16 = .ok (.if_icmp .ge 12, 3) := by decide +kernel
theorem dX3_countOf_19 : decode cX3_countOf 19 = .ok (.aload_n 0, 1) := by decide +kernel
theorem dX3_countOf_20 : decode cX3_countOf 20 = .ok (.getfield 20, 3) := by decide +kernel
theorem dX3_countOf_23 : decode cX3_countOf 23 = .ok (.iload_n 3, 1) := by decide +kernel
theorem dX3_countOf_24 : decode cX3_countOf 24 = .ok (.iaload, 1) := by decide +kernel
theorem dX3_countOf_25 : decode cX3_countOf 25 = .ok (.goto 4, 3) := by decide +kernel
theorem dX3_countOf_28 : decode cX3_countOf 28 = .ok (.iconst 0, 1) := by decide +kernel
theorem dX3_countOf_29 : decode cX3_countOf 29 = .ok (.ireturn, 1) := by decide +kernel
theorem dX3_countDay_0 : decode cX3_countDay 0 = .ok (.iload_n 1, 1) := by decide +kernel
theorem dX3_countDay_1 : decode cX3_countDay 1 = .ok (.ifCond .lt 18, 3) := by decide +kernel
theorem dX3_countDay_4 : decode cX3_countDay 4 = .ok (.iload_n 1, 1) := by decide +kernel
theorem dX3_countDay_5 : decode cX3_countDay 5 = .ok (.bipush 6, 2) := by decide +kernel
theorem dX3_countDay_7 : decode cX3_countDay 7 = .ok (.if_icmp .gt 12, 3) := by decide +kernel
theorem dX3_countDay_10 : decode cX3_countDay 10 = .ok (.aload_n 0, 1) := by decide +kernel
theorem dX3_countDay_11 : decode cX3_countDay 11 = .ok (.getfield 29, 3) := by decide +kernel
theorem dX3_countDay_14 : decode cX3_countDay 14 = .ok (.iload_n 1, 1) := by decide +kernel
theorem dX3_countDay_15 : decode cX3_countDay 15 = .ok (.iaload, 1) := by decide +kernel
theorem dX3_countDay_16 : decode cX3_countDay 16 = .ok (.goto 6, 3) := by decide +kernel
theorem dX3_countDay_19 : decode cX3_countDay 19 = .ok (.sipush 2556, 3) := by decide +kernel
theorem dX3_countDay_22 : decode cX3_countDay 22 = .ok (.istore_n 2, 1) := by decide +kernel
theorem dX3_countDay_23 : decode cX3_countDay 23 = .ok (.iconst 0, 1) := by decide +kernel
theorem dX3_countDay_24 : decode cX3_countDay 24 = .ok (.istore_n 3, 1) := by decide +kernel
theorem dX3_countDay_25 : decode cX3_countDay 25 = .ok (.iload_n 3, 1) := by decide +kernel
theorem dX3_countDay_26 : decode cX3_countDay 26 = .ok (.aload_n 0, 1) := by decide +kernel
theorem dX3_countDay_27 : decode cX3_countDay 27 = .ok (.iload_n 1, 1) := by decide +kernel
theorem dX3_countDay_28 : decode cX3_countDay 28 = .ok (.iconst 0, 1) := by decide +kernel
theorem dX3_countDay_29 : decode cX3_countDay 29 = .ok (.invokevirtual 97, 3) := by decide +kernel
theorem dX3_countDay_32 : decode cX3_countDay 32 = .ok (.if_icmp .ge 79, 3) := by decide +kernel
theorem dX3_countDay_35 : decode cX3_countDay 35 = .ok (.iconst 0, 1) := by decide +kernel
theorem dX3_countDay_36 : decode cX3_countDay 36 = .ok (.istore 4, 2) := by decide +kernel
theorem dX3_countDay_38 : decode cX3_countDay 38 = .ok (.iload 4, 2) := by decide +kernel
theorem dX3_countDay_40 : decode cX3_countDay 40 = .ok (.aload_n 0, 1) := by decide +kernel
theorem dX3_countDay_41 : decode cX3_countDay 41 = .ok (.iload_n 1, 1) := by decide +kernel
theorem dX3_countDay_42 : decode cX3_countDay 42 = .ok (.iconst 1, 1) := by decide +kernel
theorem dX3_countDay_43 : decode cX3_countDay 43 = .ok (.invokevirtual 97, 3) := by decide +kernel
theorem dX3_countDay_46 : decode cX3_countDay 46 = .ok (.if_icmp .ge 59, 3) := by decide +kernel
theorem dX3_countDay_49 : decode cX3_countDay 49 = .ok (.iconst 0, 1) := by decide +kernel
theorem dX3_countDay_50 : decode cX3_countDay 50 = .ok (.istore 5, 2) := by decide +kernel
theorem dX3_countDay_52 : decode cX3_countDay 52 = .ok (.iload 5, 2) := by decide +kernel
theorem dX3_countDay_54 : decode cX3_countDay 54 = .ok (.aload_n 0, 1) := by decide +kernel
theorem dX3_countDay_55 : decode cX3_countDay 55 = .ok (.iload_n 1, 1) := by decide +kernel
theorem dX3_countDay_56 : decode cX3_countDay 56 = .ok (.iconst 2, 1) := by decide +kernel
theorem dX3_countDay_57 : decode cX3_countDay 57 = .ok (.invokevirtual 97, 3) := by decide +kernel
theorem dX3_countDay_60 : decode cX3_countDay 60 = .ok (.if_icmp .ge 39, 3) := by decide +kernel
theorem dX3_countDay_63 : decode cX3_countDay 63 = .ok (.iload_n 2, 1) := by decide +kernel
theorem dX3_countDay_64 : decode cX3_countDay 64 = .ok (.ifCond .lt 26, 3) := by decide +kernel
theorem dX3_countDay_67 : decode cX3_countDay 67 = .ok (.iload_n 2, 1) := by decide +kernel
theorem dX3_countDay_68 : decode cX3_countDay 68 = .ok (.sipush 2556, 3) := by decide +kernel
theorem dX3_countDay_71 : decode cX3_countDay 71 = .ok (.if_icmp .ge 19, 3) := by decide +kernel
theorem dX3_countDay_74 : decode cX3_countDay 74 = .ok (.aload_n 0, 1) := by decide +kernel
theorem dX3_countDay_75 : decode cX3_countDay 75 = .ok (.getfield 26, 3) := by decide +kernel
theorem dX3_countDay_78 : decode cX3_countDay 78 = .ok (.iload_n 2, 1) := by decide +kernel
theorem dX3_countDay_79 : decode cX3_countDay 79 = .ok (.aload_n 0, 1) := by decide +kernel
theorem dX3_countDay_80 : decode cX3_countDay 80 = .ok (.iload_n 1, 1) := by decide +kernel
theorem dX3_countDay_81 : decode cX3_countDay 81 = .ok (.iload_n 3, 1) := by decide +kernel
theorem dX3_countDay_82 : decode cX3_countDay 82 = .ok (.iload 4, 2) := by decide +kernel
theorem dX3_countDay_84 : decode cX3_countDay 84 = .ok (.iload 5, 2) := by decide +kernel
theorem dX3_countDay_86 : decode cX3_countDay 86 = .ok (.invokevirtual 100, 3) := by decide +kernel
theorem dX3_countDay_89 : decode cX3_countDay 89 = .ok (.iastore, 1) := by decide +kernel
theorem dX3_countDay_90 : decode cX3_countDay 90 = .ok (.iinc 2 1, 3) := by decide +kernel
theorem dX3_countDay_93 : decode cX3_countDay 93 = .ok (.iinc 5 1, 3) := by decide +kernel
theorem dX3_countDay_96 : decode cX3_countDay 96 = .ok (.goto (-44), 3) := by decide +kernel
theorem dX3_countDay_99 : decode cX3_countDay 99 = .ok (.iinc 4 1, 3) := by decide +kernel
theorem dX3_countDay_102 : decode cX3_countDay 102 = .ok (.goto (-64), 3) := by decide +kernel
theorem dX3_countDay_105 : decode cX3_countDay 105 = .ok (.iinc 3 1, 3) := by decide +kernel
theorem dX3_countDay_108 : decode cX3_countDay 108 = .ok (.goto (-83), 3) := by decide +kernel
theorem dX3_countDay_111 : decode cX3_countDay 111 = .ok (.return_, 1) := by decide +kernel
theorem dX3_bestMeals_0 : decode cX3_bestMeals 0 = .ok (.sipush 1000, 3) := by decide +kernel
theorem dX3_bestMeals_3 : decode cX3_bestMeals 3 = .ok (.istore 5, 2) := by decide +kernel
theorem dX3_bestMeals_5 : decode cX3_bestMeals 5 = .ok (.aload_n 0, 1) := by decide +kernel
theorem dX3_bestMeals_6 : decode cX3_bestMeals 6 = .ok (.bipush (-6), 2) := by decide +kernel
theorem dX3_bestMeals_8 : decode cX3_bestMeals 8 = .ok (.putfield 103, 3) := by decide +kernel
theorem dX3_bestMeals_11 : decode cX3_bestMeals 11 = .ok (.iconst 0, 1) := by decide +kernel
theorem dX3_bestMeals_12 : decode cX3_bestMeals 12 = .ok (.istore 6, 2) := by decide +kernel
theorem dX3_bestMeals_14 : decode cX3_bestMeals 14 = .ok (.iload 6, 2) := by decide +kernel
theorem dX3_bestMeals_16 : decode cX3_bestMeals 16 = .ok (.iconst 3, 1) := by decide +kernel
theorem dX3_bestMeals_17 : decode cX3_bestMeals 17 = .ok (.if_icmp .ge 181, 3) := by decide +kernel
theorem dX3_bestMeals_20 : decode cX3_bestMeals 20 = .ok (.iload 6, 2) := by decide +kernel
theorem dX3_bestMeals_22 : decode cX3_bestMeals 22 = .ok (.aload_n 0, 1) := by decide +kernel
theorem dX3_bestMeals_23 : decode cX3_bestMeals 23 = .ok (.getfield 48, 3) := by decide +kernel
theorem dX3_bestMeals_26 : decode cX3_bestMeals 26 = .ok (.if_icmp .gt 172, 3) := by decide +kernel
theorem dX3_bestMeals_29 : decode cX3_bestMeals 29 = .ok (.aload_n 0, 1) := by decide +kernel
theorem dX3_bestMeals_30 : decode cX3_bestMeals 30 = .ok (.iload_n 1, 1) := by decide +kernel
theorem dX3_bestMeals_31 : decode cX3_bestMeals 31 = .ok (.iconst 0, 1) := by decide +kernel
theorem dX3_bestMeals_32 : decode cX3_bestMeals 32 = .ok (.iload_n 2, 1) := by decide +kernel
theorem dX3_bestMeals_33 : decode cX3_bestMeals 33 = .ok (.iload 6, 2) := by decide +kernel
theorem dX3_bestMeals_35 : decode cX3_bestMeals 35 = .ok (.invokevirtual 106, 3) := by decide +kernel
theorem dX3_bestMeals_38 : decode cX3_bestMeals 38 = .ok (.istore 7, 2) := by decide +kernel
theorem dX3_bestMeals_40 : decode cX3_bestMeals 40 = .ok (.iconst 0, 1) := by decide +kernel
theorem dX3_bestMeals_41 : decode cX3_bestMeals 41 = .ok (.istore 8, 2) := by decide +kernel
theorem dX3_bestMeals_43 : decode cX3_bestMeals 43 = .ok (.iload 7, 2) := by decide +kernel
theorem dX3_bestMeals_45 : decode cX3_bestMeals 45 = .ok (.ifCond .lt 147, 3) := by decide +kernel
theorem dX3_bestMeals_48 : decode cX3_bestMeals 48 = .ok (.iload 8, 2) := by decide +kernel
theorem dX3_bestMeals_50 : decode cX3_bestMeals 50 = .ok (.iconst 3, 1) := by decide +kernel
theorem dX3_bestMeals_51 : decode cX3_bestMeals 51 = .ok (.if_icmp .ge 141, 3) := by decide +kernel
theorem dX3_bestMeals_54 : decode cX3_bestMeals 54 = .ok (.iload 6, 2) := by decide +kernel
theorem dX3_bestMeals_56 : decode cX3_bestMeals 56 = .ok (.iload 8, 2) := by decide +kernel
theorem dX3_bestMeals_58 : decode cX3_bestMeals 58 = .ok (.iadd, 1) := by decide +kernel
theorem dX3_bestMeals_59 : decode cX3_bestMeals 59 = .ok (.aload_n 0, 1) := by decide +kernel
theorem dX3_bestMeals_60 : decode cX3_bestMeals 60 = .ok (.getfield 48, 3) := by decide +kernel
theorem dX3_bestMeals_63 : decode cX3_bestMeals 63 = .ok (.if_icmp .gt 129, 3) := by decide +kernel
theorem dX3_bestMeals_66 : decode cX3_bestMeals 66 = .ok (.aload_n 0, 1) := by decide +kernel
theorem dX3_bestMeals_67 : decode cX3_bestMeals 67 = .ok (.iload_n 1, 1) := by decide +kernel
theorem dX3_bestMeals_68 : decode cX3_bestMeals 68 = .ok (.iconst 1, 1) := by decide +kernel
theorem dX3_bestMeals_69 : decode cX3_bestMeals 69 = .ok (.iload_n 3, 1) := by decide +kernel
theorem dX3_bestMeals_70 : decode cX3_bestMeals 70 = .ok (.iload 8, 2) := by decide +kernel
theorem dX3_bestMeals_72 : decode cX3_bestMeals 72 = .ok (.invokevirtual 106, 3) := by decide +kernel
theorem dX3_bestMeals_75 : decode cX3_bestMeals 75 = .ok (.istore 9, 2) := by decide +kernel
theorem dX3_bestMeals_77 : decode cX3_bestMeals 77 = .ok (.iconst 0, 1) := by decide +kernel
theorem dX3_bestMeals_78 : decode cX3_bestMeals 78 = .ok (.istore 10, 2) := by decide +kernel
theorem dX3_bestMeals_80 : decode cX3_bestMeals 80 = .ok (.iload 9, 2) := by decide +kernel
theorem dX3_bestMeals_82 : decode cX3_bestMeals 82 = .ok (.ifCond .lt 104, 3) := by decide +kernel
theorem dX3_bestMeals_85 : decode cX3_bestMeals 85 = .ok (.iload 10, 2) := by decide +kernel
theorem dX3_bestMeals_87 : decode cX3_bestMeals 87 = .ok (.iconst 3, 1) := by decide +kernel
theorem dX3_bestMeals_88 : decode cX3_bestMeals 88 = .ok (.if_icmp .ge 98, 3) := by decide +kernel
theorem dX3_bestMeals_91 : decode cX3_bestMeals 91 = .ok (.iload 6, 2) := by decide +kernel
theorem dX3_bestMeals_93 : decode cX3_bestMeals 93 = .ok (.iload 8, 2) := by decide +kernel
theorem dX3_bestMeals_95 : decode cX3_bestMeals 95 = .ok (.iadd, 1) := by decide +kernel
theorem dX3_bestMeals_96 : decode cX3_bestMeals 96 = .ok (.iload 10, 2) := by decide +kernel
theorem dX3_bestMeals_98 : decode cX3_bestMeals 98 = .ok (.iadd, 1) := by decide +kernel
theorem dX3_bestMeals_99 : decode cX3_bestMeals 99 = .ok (.aload_n 0, 1) := by decide +kernel
theorem dX3_bestMeals_100 : decode cX3_bestMeals 100 = .ok (.getfield 48, 3) := by decide +kernel
theorem dX3_bestMeals_103 : decode cX3_bestMeals 103 = .ok (.if_icmp .gt 83, 3) := by decide +kernel
theorem dX3_bestMeals_106 : decode cX3_bestMeals 106 = .ok (.aload_n 0, 1) := by decide +kernel
theorem dX3_bestMeals_107 : decode cX3_bestMeals 107 = .ok (.iload_n 1, 1) := by decide +kernel
theorem dX3_bestMeals_108 : decode cX3_bestMeals 108 = .ok (.iconst 2, 1) := by decide +kernel
theorem dX3_bestMeals_109 : decode cX3_bestMeals 109 = .ok (.iload 4, 2) := by decide +kernel
theorem dX3_bestMeals_111 : decode cX3_bestMeals 111 = .ok (.iload 10, 2) := by decide +kernel
theorem dX3_bestMeals_113 : decode cX3_bestMeals 113 = .ok (.invokevirtual 106, 3) := by decide +kernel
theorem dX3_bestMeals_116 : decode cX3_bestMeals 116 = .ok (.istore 11, 2) := by decide +kernel
theorem dX3_bestMeals_118 : decode cX3_bestMeals 118 = .ok (.iload 11, 2) := by decide +kernel
theorem dX3_bestMeals_120 : decode cX3_bestMeals 120 = .ok (.ifCond .ge 9, 3) := by decide +kernel
theorem dX3_bestMeals_123 : decode cX3_bestMeals 123 = .ok (.sipush 1000, 3) := by decide +kernel
theorem dX3_bestMeals_126 : decode cX3_bestMeals 126 = .ok (.goto 25, 3) := by decide +kernel
theorem dX3_bestMeals_129 : decode cX3_bestMeals 129 = .ok (.iload 6, 2) := by decide +kernel
theorem dX3_bestMeals_131 : decode cX3_bestMeals 131 = .ok (.iload 8, 2) := by decide +kernel
theorem dX3_bestMeals_133 : decode cX3_bestMeals 133 = .ok (.iadd, 1) := by decide +kernel
theorem dX3_bestMeals_134 : decode cX3_bestMeals 134 = .ok (.iload 10, 2) := by decide +kernel
theorem dX3_bestMeals_136 : decode cX3_bestMeals 136 = .ok (.iadd, 1) := by decide +kernel
theorem dX3_bestMeals_137 : decode cX3_bestMeals 137 = .ok (.aload_n 0, 1) := by decide +kernel
theorem dX3_bestMeals_138 : decode cX3_bestMeals 138 = .ok (.iload_n 1, 1) := by decide +kernel
theorem dX3_bestMeals_139 : decode cX3_bestMeals 139 = .ok (.iconst 1, 1) := by decide +kernel
theorem dX3_bestMeals_140 : decode cX3_bestMeals 140 = .ok (.iadd, 1) := by decide +kernel
theorem dX3_bestMeals_141 : decode cX3_bestMeals 141 = .ok (.iload 7, 2) := by decide +kernel
theorem dX3_bestMeals_143 : decode cX3_bestMeals 143 = .ok (.iload 9, 2) := by decide +kernel
theorem dX3_bestMeals_145 : decode cX3_bestMeals 145 = .ok (.iload 11, 2) := by decide +kernel
theorem dX3_bestMeals_147 : decode cX3_bestMeals 147 = .ok (.invokevirtual 66, 3) := by decide +kernel
theorem dX3_bestMeals_150 : decode cX3_bestMeals 150 = .ok (.iadd, 1) := by decide +kernel
theorem dX3_bestMeals_151 : decode cX3_bestMeals 151 = .ok (.istore 12, 2) := by decide +kernel
theorem dX3_bestMeals_153 : decode cX3_bestMeals 153 = .ok (.iload 12, 2) := by decide +kernel
theorem dX3_bestMeals_155 : decode cX3_bestMeals 155 = .ok (.iload 5, 2) := by decide +kernel
theorem dX3_bestMeals_157 : decode cX3_bestMeals 157 = .ok (.if_icmp .ge 23, 3) := by decide +kernel
theorem dX3_bestMeals_160 : decode cX3_bestMeals 160 = .ok (.iload 12, 2) := by decide +kernel
theorem dX3_bestMeals_162 : decode cX3_bestMeals 162 = .ok (.istore 5, 2) := by decide +kernel
theorem dX3_bestMeals_164 : decode cX3_bestMeals 164 = .ok (.aload_n 0, 1) := by decide +kernel
theorem dX3_bestMeals_165 : decode cX3_bestMeals 165 = .ok (.iload 6, 2) := by decide +kernel
theorem dX3_bestMeals_167 : decode cX3_bestMeals 167 = .ok (.iconst 3, 1) := by decide +kernel
theorem dX3_bestMeals_168 : decode cX3_bestMeals 168 = .ok (.imul, 1) := by decide +kernel
theorem dX3_bestMeals_169 : decode cX3_bestMeals 169 = .ok (.iload 8, 2) := by decide +kernel
theorem dX3_bestMeals_171 : decode cX3_bestMeals 171 = .ok (.iadd, 1) := by decide +kernel
theorem dX3_bestMeals_172 : decode cX3_bestMeals 172 = .ok (.iconst 3, 1) := by decide +kernel
theorem dX3_bestMeals_173 : decode cX3_bestMeals 173 = .ok (.imul, 1) := by decide +kernel
theorem dX3_bestMeals_174 : decode cX3_bestMeals 174 = .ok (.iload 10, 2) := by decide +kernel
theorem dX3_bestMeals_176 : decode cX3_bestMeals 176 = .ok (.iadd, 1) := by decide +kernel
theorem dX3_bestMeals_177 : decode cX3_bestMeals 177 = .ok (.putfield 103, 3) := by decide +kernel
theorem dX3_bestMeals_180 : decode cX3_bestMeals 180 = .ok (.iinc 10 1, 3) := by decide +kernel
theorem dX3_bestMeals_183 : decode cX3_bestMeals 183 = .ok (.goto (-103), 3) := by decide +kernel
theorem dX3_bestMeals_186 : decode cX3_bestMeals 186 = .ok (.iinc 8 1, 3) := by decide +kernel
theorem dX3_bestMeals_189 : decode cX3_bestMeals 189 = .ok (.goto (-146), 3) := by decide +kernel
theorem dX3_bestMeals_192 : decode cX3_bestMeals 192 = .ok (.iinc 6 1, 3) := by decide +kernel
theorem dX3_bestMeals_195 : decode cX3_bestMeals 195 = .ok (.goto (-181), 3) := by decide +kernel
theorem dX3_bestMeals_198 : decode cX3_bestMeals 198 = .ok (.iload 5, 2) := by decide +kernel
theorem dX3_bestMeals_200 : decode cX3_bestMeals 200 = .ok (.ireturn, 1) := by decide +kernel
theorem dX3_next_0 : decode cX3_next 0 = .ok (.iload_n 1, 1) := by decide +kernel
theorem dX3_next_1 : decode cX3_next 1 = .ok (.iconst 3, 1) := by decide +kernel
theorem dX3_next_2 : decode cX3_next 2 = .ok (.imul, 1) := by decide +kernel
theorem dX3_next_3 : decode cX3_next 3 = .ok (.iload_n 2, 1) := by decide +kernel
theorem dX3_next_4 : decode cX3_next 4 = .ok (.iadd, 1) := by decide +kernel
theorem dX3_next_5 : decode cX3_next 5 = .ok (.istore 5, 2) := by decide +kernel
theorem dX3_next_7 : decode cX3_next 7 = .ok (.iload_n 3, 1) := by decide +kernel
theorem dX3_next_8 : decode cX3_next 8 = .ok (.iconst 3, 1) := by decide +kernel
theorem dX3_next_9 : decode cX3_next 9 = .ok (.imul, 1) := by decide +kernel
theorem dX3_next_10 : decode cX3_next 10 = .ok (.iload 4, 2) := by decide +kernel
theorem dX3_next_12 : decode cX3_next 12 = .ok (.iadd, 1) := by decide +kernel
theorem dX3_next_13 : decode cX3_next 13 = .ok (.istore 6, 2) := by decide +kernel
theorem dX3_next_15 : decode cX3_next 15 = .ok (.iload 5, 2) := by decide +kernel
theorem dX3_next_17 : decode cX3_next 17 = .ok (.ifCond .lt 38, 3) := by decide +kernel
theorem dX3_next_20 : decode cX3_next 20 = .ok (.iload 5, 2) := by decide +kernel
theorem dX3_next_22 : decode cX3_next 22 = .ok (.aload_n 0, 1) := by decide +kernel
theorem dX3_next_23 : decode cX3_next 23 = .ok (.getfield 23, 3) := by decide +kernel
theorem dX3_next_26 : decode cX3_next 26 = .ok (.arraylength, 1) := by decide +kernel
theorem dX3_next_27 : decode cX3_next 27 = .ok (.if_icmp .ge 28, 3) := by decide +kernel
theorem dX3_next_30 : decode cX3_next 30 = .ok (.iload 6, 2) := by decide +kernel
theorem dX3_next_32 : decode cX3_next 32 = .ok (.ifCond .lt 23, 3) := by decide +kernel
theorem dX3_next_35 : decode cX3_next 35 = .ok (.iload 6, 2) := by decide +kernel
theorem dX3_next_37 : decode cX3_next 37 = .ok (.bipush 39, 2) := by decide +kernel
theorem dX3_next_39 : decode cX3_next 39 = .ok (.if_icmp .ge 16, 3) := by decide +kernel
theorem dX3_next_42 : decode cX3_next 42 = .ok (.aload_n 0, 1) := by decide +kernel
theorem dX3_next_43 : decode cX3_next 43 = .ok (.getfield 23, 3) := by decide +kernel
theorem dX3_next_46 : decode cX3_next 46 = .ok (.iload 5, 2) := by decide +kernel
theorem dX3_next_48 : decode cX3_next 48 = .ok (.aaload, 1) := by decide +kernel
theorem dX3_next_49 : decode cX3_next 49 = .ok (.iload 6, 2) := by decide +kernel
theorem dX3_next_51 : decode cX3_next 51 = .ok (.iaload, 1) := by decide +kernel
theorem dX3_next_52 : decode cX3_next 52 = .ok (.goto 5, 3) := by decide +kernel
theorem dX3_next_55 : decode cX3_next 55 = .ok (.bipush (-6), 2) := by decide +kernel
theorem dX3_next_57 : decode cX3_next 57 = .ok (.ireturn, 1) := by decide +kernel
theorem dX3_fewestFrom_0 : decode cX3_fewestFrom 0 = .ok (.iload_n 1, 1) := by decide +kernel
theorem dX3_fewestFrom_1 : decode cX3_fewestFrom 1 = .ok (.ifCond .lt 17, 3) := by decide +kernel
theorem dX3_fewestFrom_4 : decode cX3_fewestFrom 4 = .ok (.iload_n 1, 1) := by decide +kernel
theorem dX3_fewestFrom_5 : decode cX3_fewestFrom 5 = .ok (.aload_n 0, 1) := by decide +kernel
theorem dX3_fewestFrom_6 : decode cX3_fewestFrom 6 = .ok (.getfield 44, 3) := by decide +kernel
theorem dX3_fewestFrom_9 : decode cX3_fewestFrom 9 = .ok (.if_icmp .ge 9, 3) := by decide +kernel
theorem dX3_fewestFrom_12 : decode cX3_fewestFrom 12 = .ok (.iload_n 1, 1) := by decide +kernel
theorem dX3_fewestFrom_13 : decode cX3_fewestFrom 13 = .ok (.bipush 6, 2) := by decide +kernel
theorem dX3_fewestFrom_15 : decode cX3_fewestFrom 15 = .ok (.if_icmp .lt 5, 3) := by decide +kernel
theorem dX3_fewestFrom_18 : decode cX3_fewestFrom 18 = .ok (.iconst 0, 1) := by decide +kernel
theorem dX3_fewestFrom_19 : decode cX3_fewestFrom 19 = .ok (.ireturn, 1) := by decide +kernel
theorem dX3_fewestFrom_20 : decode cX3_fewestFrom 20 = .ok (.aload_n 0, 1) := by decide +kernel
theorem dX3_fewestFrom_21 : decode cX3_fewestFrom 21 = .ok (.getfield 29, 3) := by decide +kernel
theorem dX3_fewestFrom_24 : decode cX3_fewestFrom 24 = .ok (.iload_n 1, 1) := by decide +kernel
theorem dX3_fewestFrom_25 : decode cX3_fewestFrom 25 = .ok (.iaload, 1) := by decide +kernel
theorem dX3_fewestFrom_26 : decode cX3_fewestFrom 26 = .ok (.iload_n 2, 1) := by decide +kernel
theorem dX3_fewestFrom_27 : decode cX3_fewestFrom 27 = .ok (.aload_n 0, 1) := by decide +kernel
theorem dX3_fewestFrom_28 : decode cX3_fewestFrom 28 = .ok (.iload_n 1, 1) := by decide +kernel
theorem dX3_fewestFrom_29 : decode cX3_fewestFrom 29 = .ok (.iconst 1, 1) := by decide +kernel
theorem dX3_fewestFrom_30 : decode cX3_fewestFrom 30 = .ok (.invokevirtual 97, 3) := by decide +kernel
theorem dX3_fewestFrom_33 : decode cX3_fewestFrom 33 = .ok (.imul, 1) := by decide +kernel
theorem dX3_fewestFrom_34 : decode cX3_fewestFrom 34 = .ok (.iload_n 3, 1) := by decide +kernel
theorem dX3_fewestFrom_35 : decode cX3_fewestFrom 35 = .ok (.iadd, 1) := by decide +kernel
theorem dX3_fewestFrom_36 : decode cX3_fewestFrom 36 = .ok (.aload_n 0, 1) := by decide +kernel
theorem dX3_fewestFrom_37 : decode cX3_fewestFrom 37 = .ok (.iload_n 1, 1) := by decide +kernel
theorem dX3_fewestFrom_38 : decode cX3_fewestFrom 38 = .ok (.iconst 2, 1) := by decide +kernel
theorem dX3_fewestFrom_39 : decode cX3_fewestFrom 39 = .ok (.invokevirtual 97, 3) := by decide +kernel
theorem dX3_fewestFrom_42 : decode cX3_fewestFrom 42 = .ok (.imul, 1) := by decide +kernel
theorem dX3_fewestFrom_43 : decode cX3_fewestFrom 43 = .ok (.iadd, 1) := by decide +kernel
theorem dX3_fewestFrom_44 : decode cX3_fewestFrom 44 = .ok (.iload 4, 2) := by decide +kernel
theorem dX3_fewestFrom_46 : decode cX3_fewestFrom 46 = .ok (.iadd, 1) := by decide +kernel
theorem dX3_fewestFrom_47 : decode cX3_fewestFrom 47 = .ok (.istore 5, 2) := by decide +kernel
theorem dX3_fewestFrom_49 : decode cX3_fewestFrom 49 = .ok (.iload 5, 2) := by decide +kernel
theorem dX3_fewestFrom_51 : decode cX3_fewestFrom 51 = .ok (.ifCond .lt 21, 3) := by decide +kernel
theorem dX3_fewestFrom_54 : decode cX3_fewestFrom 54 = .ok (.iload 5, 2) := by decide +kernel
theorem dX3_fewestFrom_56 : decode cX3_fewestFrom 56 = .ok (.sipush 2556, 3) := by decide +kernel
theorem dX3_fewestFrom_59 : decode cX3_fewestFrom 59 = .ok (.if_icmp .ge 13, 3) := by decide +kernel
theorem dX3_fewestFrom_62 : decode cX3_fewestFrom 62 = .ok (.aload_n 0, 1) := by decide +kernel
theorem dX3_fewestFrom_63 : decode cX3_fewestFrom 63 = .ok (.getfield 26, 3) := by decide +kernel
theorem dX3_fewestFrom_66 : decode cX3_fewestFrom 66 = .ok (.iload 5, 2) := by decide +kernel
theorem dX3_fewestFrom_68 : decode cX3_fewestFrom 68 = .ok (.iaload, 1) := by decide +kernel
theorem dX3_fewestFrom_69 : decode cX3_fewestFrom 69 = .ok (.goto 6, 3) := by decide +kernel
theorem dX3_fewestFrom_72 : decode cX3_fewestFrom 72 = .ok (.sipush 1000, 3) := by decide +kernel
theorem dX3_fewestFrom_75 : decode cX3_fewestFrom 75 = .ok (.ireturn, 1) := by decide +kernel
theorem dX3_eats_0 : decode cX3_eats 0 = .ok (.aload_n 0, 1) := by decide +kernel
theorem dX3_eats_1 : decode cX3_eats 1 = .ok (.invokevirtual 109, 3) := by decide +kernel
theorem dX3_eats_4 : decode cX3_eats 4 = .ok (.iconst 0, 1) := by decide +kernel
theorem dX3_eats_5 : decode cX3_eats 5 = .ok (.istore_n 3, 1) := by decide +kernel
theorem dX3_eats_6 : decode cX3_eats 6 = .ok (.iload_n 3, 1) := by decide +kernel
theorem dX3_eats_7 : decode cX3_eats 7 = .ok (.iconst 3, 1) := by decide +kernel
theorem dX3_eats_8 : decode cX3_eats 8 = .ok (.if_icmp .ge 48, 3) := by decide +kernel
theorem dX3_eats_11 : decode cX3_eats 11 = .ok (.aload_n 0, 1) := by decide +kernel
theorem dX3_eats_12 : decode cX3_eats 12 = .ok (.getfield 11, 3) := by decide +kernel
theorem dX3_eats_15 : decode cX3_eats 15 = .ok (.iload_n 3, 1) := by decide +kernel
theorem dX3_eats_16 : decode cX3_eats 16 = .ok (.iaload, 1) := by decide +kernel
theorem dX3_eats_17 : decode cX3_eats 17 = .ok (.iload_n 2, 1) := by decide +kernel
theorem dX3_eats_18 : decode cX3_eats 18 = .ok (.if_icmp .ne 32, 3) := by decide +kernel
theorem dX3_eats_21 : decode cX3_eats 21 = .ok (.iload_n 1, 1) := by decide +kernel
theorem dX3_eats_22 : decode cX3_eats 22 = .ok (.ifCond .lt 28, 3) := by decide +kernel
theorem dX3_eats_25 : decode cX3_eats 25 = .ok (.iload_n 1, 1) := by decide +kernel
theorem dX3_eats_26 : decode cX3_eats 26 = .ok (.aload_n 0, 1) := by decide +kernel
theorem dX3_eats_27 : decode cX3_eats 27 = .ok (.getfield 44, 3) := by decide +kernel
theorem dX3_eats_30 : decode cX3_eats 30 = .ok (.if_icmp .ge 20, 3) := by decide +kernel
theorem dX3_eats_33 : decode cX3_eats 33 = .ok (.iload_n 1, 1) := by decide +kernel
theorem dX3_eats_34 : decode cX3_eats 34 = .ok (.bipush 6, 2) := by decide +kernel
theorem dX3_eats_36 : decode cX3_eats 36 = .ok (.if_icmp .ge 14, 3) := by decide +kernel
theorem dX3_eats_39 : decode cX3_eats 39 = .ok (.aload_n 0, 1) := by decide +kernel
theorem dX3_eats_40 : decode cX3_eats 40 = .ok (.getfield 32, 3) := by decide +kernel
theorem dX3_eats_43 : decode cX3_eats 43 = .ok (.iload_n 1, 1) := by decide +kernel
theorem dX3_eats_44 : decode cX3_eats 44 = .ok (.iconst 3, 1) := by decide +kernel
theorem dX3_eats_45 : decode cX3_eats 45 = .ok (.imul, 1) := by decide +kernel
theorem dX3_eats_46 : decode cX3_eats 46 = .ok (.iload_n 3, 1) := by decide +kernel
theorem dX3_eats_47 : decode cX3_eats 47 = .ok (.iadd, 1) := by decide +kernel
theorem dX3_eats_48 : decode cX3_eats 48 = .ok (.iaload, 1) := by decide +kernel
theorem dX3_eats_49 : decode cX3_eats 49 = .ok (.ireturn, 1) := by decide +kernel
theorem dX3_eats_50 : decode cX3_eats 50 = .ok (.iinc 3 1, 3) := by decide +kernel
theorem dX3_eats_53 : decode cX3_eats 53 = .ok (.goto (-47), 3) := by decide +kernel
theorem dX3_eats_56 : decode cX3_eats 56 = .ok (.iconst (-1), 1) := by decide +kernel
theorem dX3_eats_57 : decode cX3_eats 57 = .ok (.ireturn, 1) := by decide +kernel
theorem dX3_walk_0 : decode cX3_walk 0 = .ok (.iconst 0, 1) := by decide +kernel
theorem dX3_walk_1 : decode cX3_walk 1 = .ok (.istore_n 1, 1) := by decide +kernel
theorem dX3_walk_2 : decode cX3_walk 2 = .ok (.iconst 0, 1) := by decide +kernel
theorem dX3_walk_3 : decode cX3_walk 3 = .ok (.istore_n 2, 1) := by decide +kernel
theorem dX3_walk_4 : decode cX3_walk 4 = .ok (.iconst 0, 1) := by decide +kernel
theorem dX3_walk_5 : decode cX3_walk 5 = .ok (.istore_n 3, 1) := by decide +kernel
theorem dX3_walk_6 : decode cX3_walk 6 = .ok (.iconst 0, 1) := by decide +kernel
theorem dX3_walk_7 : decode cX3_walk 7 = .ok (.istore 4, 2) := by decide +kernel
theorem dX3_walk_9 : decode cX3_walk 9 = .ok (.iload 4, 2) := by decide +kernel
theorem dX3_walk_11 : decode cX3_walk 11 = .ok (.aload_n 0, 1) := by decide +kernel
theorem dX3_walk_12 : decode cX3_walk 12 = .ok (.getfield 44, 3) := by decide +kernel
theorem dX3_walk_15 : decode cX3_walk 15 = .ok (.if_icmp .ge 136, 3) := by decide +kernel
theorem dX3_walk_18 : decode cX3_walk 18 = .ok (.iload 4, 2) := by decide +kernel
theorem dX3_walk_20 : decode cX3_walk 20 = .ok (.bipush 6, 2) := by decide +kernel
theorem dX3_walk_22 : decode cX3_walk 22 = .ok (.if_icmp .ge 129, 3) := by decide +kernel
theorem dX3_walk_25 : decode cX3_walk 25 = .ok (.aload_n 0, 1) := by decide +kernel
theorem dX3_walk_26 : decode cX3_walk 26 = .ok (.iload 4, 2) := by decide +kernel
theorem dX3_walk_28 : decode cX3_walk 28 = .ok (.iload_n 1, 1) := by decide +kernel
theorem dX3_walk_29 : decode cX3_walk 29 = .ok (.iload_n 2, 1) := by decide +kernel
theorem dX3_walk_30 : decode cX3_walk 30 = .ok (.iload_n 3, 1) := by decide +kernel
theorem dX3_walk_31 : decode cX3_walk 31 = .ok (.invokevirtual 100, 3) := by decide +kernel
theorem dX3_walk_34 : decode cX3_walk 34 = .ok (.sipush 1000, 3) := by decide +kernel
theorem dX3_walk_37 : decode cX3_walk 37 = .ok (.if_icmp .ge 10, 3) := by decide +kernel
theorem dX3_walk_40 : decode cX3_walk 40 = .ok (.aload_n 0, 1) := by decide +kernel
theorem dX3_walk_41 : decode cX3_walk 41 = .ok (.getfield 103, 3) := by decide +kernel
theorem dX3_walk_44 : decode cX3_walk 44 = .ok (.ifCond .ge 4, 3) := by decide +kernel
theorem dX3_walk_47 : decode cX3_walk 47 = .ok (.return_, 1) := by decide +kernel
theorem dX3_walk_48 : decode cX3_walk 48 = .ok (.aload_n 0, 1) := by decide +kernel
theorem dX3_walk_49 : decode cX3_walk 49 = .ok (.getfield 103, 3) := by decide +kernel
theorem dX3_walk_52 : decode cX3_walk 52 = .ok (.bipush 9, 2) := by decide +kernel
theorem dX3_walk_54 : decode cX3_walk 54 = .ok (.idiv, 1) := by decide +kernel
theorem dX3_walk_55 : decode cX3_walk 55 = .ok (.istore 5, 2) := by decide +kernel
theorem dX3_walk_57 : decode cX3_walk 57 = .ok (.aload_n 0, 1) := by decide +kernel
theorem dX3_walk_58 : decode cX3_walk 58 = .ok (.getfield 103, 3) := by decide +kernel
theorem dX3_walk_61 : decode cX3_walk 61 = .ok (.iconst 3, 1) := by decide +kernel
theorem dX3_walk_62 : decode cX3_walk 62 = .ok (.idiv, 1) := by decide +kernel
theorem dX3_walk_63 : decode cX3_walk 63 = .ok (.iconst 3, 1) := by decide +kernel
theorem dX3_walk_64 : decode cX3_walk 64 = .ok (.irem, 1) := by decide +kernel
theorem dX3_walk_65 : decode cX3_walk 65 = .ok (.istore 6, 2) := by decide +kernel
theorem dX3_walk_67 : decode cX3_walk 67 = .ok (.aload_n 0, 1) := by decide +kernel
theorem dX3_walk_68 : decode cX3_walk 68 = .ok (.getfield 103, 3) := by decide +kernel
theorem dX3_walk_71 : decode cX3_walk 71 = .ok (.iconst 3, 1) := by decide +kernel
theorem dX3_walk_72 : decode cX3_walk 72 = .ok (.irem, 1) := by decide +kernel
theorem dX3_walk_73 : decode cX3_walk 73 = .ok (.istore 7, 2) := by decide +kernel
theorem dX3_walk_75 : decode cX3_walk 75 = .ok (.aload_n 0, 1) := by decide +kernel
theorem dX3_walk_76 : decode cX3_walk 76 = .ok (.getfield 32, 3) := by decide +kernel
theorem dX3_walk_79 : decode cX3_walk 79 = .ok (.iload 4, 2) := by decide +kernel
theorem dX3_walk_81 : decode cX3_walk 81 = .ok (.iconst 3, 1) := by decide +kernel
theorem dX3_walk_82 : decode cX3_walk 82 = .ok (.imul, 1) := by decide +kernel
theorem dX3_walk_83 : decode cX3_walk 83 = .ok (.iload 5, 2) := by decide +kernel
theorem dX3_walk_85 : decode cX3_walk 85 = .ok (.iastore, 1) := by decide +kernel
theorem dX3_walk_86 : decode cX3_walk 86 = .ok (.aload_n 0, 1) := by decide +kernel
theorem dX3_walk_87 : decode cX3_walk 87 = .ok (.getfield 32, 3) := by decide +kernel
theorem dX3_walk_90 : decode cX3_walk 90 = .ok (.iload 4, 2) := by decide +kernel
theorem dX3_walk_92 : decode cX3_walk 92 = .ok (.iconst 3, 1) := by decide +kernel
theorem dX3_walk_93 : decode cX3_walk 93 = .ok (.imul, 1) := by decide +kernel
theorem dX3_walk_94 : decode cX3_walk 94 = .ok (.iconst 1, 1) := by decide +kernel
theorem dX3_walk_95 : decode cX3_walk 95 = .ok (.iadd, 1) := by decide +kernel
theorem dX3_walk_96 : decode cX3_walk 96 = .ok (.iload 6, 2) := by decide +kernel
theorem dX3_walk_98 : decode cX3_walk 98 = .ok (.iastore, 1) := by decide +kernel
theorem dX3_walk_99 : decode cX3_walk 99 = .ok (.aload_n 0, 1) := by decide +kernel
theorem dX3_walk_100 : decode cX3_walk 100 = .ok (.getfield 32, 3) := by decide +kernel
theorem dX3_walk_103 : decode cX3_walk 103 = .ok (.iload 4, 2) := by decide +kernel
theorem dX3_walk_105 : decode cX3_walk 105 = .ok (.iconst 3, 1) := by decide +kernel
theorem dX3_walk_106 : decode cX3_walk 106 = .ok (.imul, 1) := by decide +kernel
theorem dX3_walk_107 : decode cX3_walk 107 = .ok (.iconst 2, 1) := by decide +kernel
theorem dX3_walk_108 : decode cX3_walk 108 = .ok (.iadd, 1) := by decide +kernel
theorem dX3_walk_109 : decode cX3_walk 109 = .ok (.iload 7, 2) := by decide +kernel
theorem dX3_walk_111 : decode cX3_walk 111 = .ok (.iastore, 1) := by decide +kernel
theorem dX3_walk_112 : decode cX3_walk 112 = .ok (.aload_n 0, 1) := by decide +kernel
theorem dX3_walk_113 : decode cX3_walk 113 = .ok (.iload 4, 2) := by decide +kernel
theorem dX3_walk_115 : decode cX3_walk 115 = .ok (.iconst 0, 1) := by decide +kernel
theorem dX3_walk_116 : decode cX3_walk 116 = .ok (.iload_n 1, 1) := by decide +kernel
theorem dX3_walk_117 : decode cX3_walk 117 = .ok (.iload 5, 2) := by decide +kernel
theorem dX3_walk_119 : decode cX3_walk 119 = .ok (.invokevirtual 106, 3) := by decide +kernel
theorem dX3_walk_122 : decode cX3_walk 122 = .ok (.istore_n 1, 1) := by decide +kernel
theorem dX3_walk_123 : decode cX3_walk 123 = .ok (.aload_n 0, 1) := by decide +kernel
theorem dX3_walk_124 : decode cX3_walk 124 = .ok (.iload 4, 2) := by decide +kernel
theorem dX3_walk_126 : decode cX3_walk 126 = .ok (.iconst 1, 1) := by decide +kernel
theorem dX3_walk_127 : decode cX3_walk 127 = .ok (.iload_n 2, 1) := by decide +kernel
theorem dX3_walk_128 : decode cX3_walk 128 = .ok (.iload 6, 2) := by decide +kernel
theorem dX3_walk_130 : decode cX3_walk 130 = .ok (.invokevirtual 106, 3) := by decide +kernel
theorem dX3_walk_133 : decode cX3_walk 133 = .ok (.istore_n 2, 1) := by decide +kernel
theorem dX3_walk_134 : decode cX3_walk 134 = .ok (.aload_n 0, 1) := by decide +kernel
theorem dX3_walk_135 : decode cX3_walk 135 = .ok (.iload 4, 2) := by decide +kernel
theorem dX3_walk_137 : decode cX3_walk 137 = .ok (.iconst 2, 1) := by decide +kernel
theorem dX3_walk_138 : decode cX3_walk 138 = .ok (.iload_n 3, 1) := by decide +kernel
theorem dX3_walk_139 : decode cX3_walk 139 = .ok (.iload 7, 2) := by decide +kernel
theorem dX3_walk_141 : decode cX3_walk 141 = .ok (.invokevirtual 106, 3) := by decide +kernel
theorem dX3_walk_144 : decode cX3_walk 144 = .ok (.istore_n 3, 1) := by decide +kernel
theorem dX3_walk_145 : decode cX3_walk 145 = .ok (.iinc 4 1, 3) := by decide +kernel
theorem dX3_walk_148 : decode cX3_walk 148 = .ok (.goto (-139), 3) := by decide +kernel
theorem dX3_walk_151 : decode cX3_walk 151 = .ok (.return_, 1) := by decide +kernel
theorem b_X3_solve_0 {l : Launch} {z d : Nat} {X : jX} {M : Nat → Int → Int} {Q : Option jV → jM → Prop} {x2 : Int} {x3 : Int} {x4 : Int} {x5 : Int}   (k1 : J l z X (d + 3) mX3_seat (0, 0) 0 [jR 19, jR 1, jI x2, jN, jN] [] (jG, (jupd (jupd (jupd M 19 7 (max 0 (min 6 x3))) 19 8 x4) 19 9 x5)) (fun r μ => J l z X (d + 4) mX3_solve (0, 0) 32 [jR 19, jR 1, jI x2, jI x3, jI x4, jI x5, jN] (r.toList ++ []) μ Q)) : J l z X (d + 4) mX3_solve (0, 0) 0 [jR 19, jR 1, jI x2, jI x3, jI x4, jI x5, jN] [] (jG, M) Q :=
  (J_aload_n dX3_solve_0 rfl (J_iconst dX3_solve_1 jc_0 (J_bipush dX3_solve_2 jc_6 jb_6 (J_iload_n dX3_solve_4 rfl (J_mmin dX3_solve_5 wm_X3_35 is_J9_min_7cf53 wi_J9 mc_J9_min_7cf53 (Nat.succ_le_succ (Nat.zero_le _)) (Nat.le_of_ble_eq_true rfl) (J_mmax dX3_solve_8 wm_X3_41 is_J9_max_7cf53 wi_J9 mc_J9_max_7cf53 (Nat.succ_le_succ (Nat.zero_le _)) (Nat.le_of_ble_eq_true rfl) (J_putI (k := 7) (kz := 7) jcl_X3 dX3_solve_11 wf_X3_44 g_19 (Nat.le_of_ble_eq_true rfl) rfl rfl rfl (J_aload_n dX3_solve_14 rfl (J_iload dX3_solve_15 rfl (J_putI (k := 8) (kz := 8) jcl_X3 dX3_solve_17 wf_X3_48 g_19 (Nat.le_of_ble_eq_true rfl) rfl rfl rfl (J_aload_n dX3_solve_20 rfl (J_iload dX3_solve_21 rfl (J_putI (k := 9) (kz := 9) jcl_X3 dX3_solve_23 wf_X3_51 g_19 (Nat.le_of_ble_eq_true rfl) rfl rfl rfl (J_aload_n dX3_solve_26 rfl (J_aload_n dX3_solve_27 rfl (J_iload_n dX3_solve_28 rfl (J_callV (a1 := (0, 0)) (a2 := (0, 0)) (mm' := mX3_seat) (S := []) [jR 1, jI x2] md_X3_seat im_X3_seat se_X3_seat dX3_solve_29 wm_X3_54 jcl_X3.1 rfl g_19 rfl rfl (Nat.le_of_ble_eq_true rfl) (Nat.le_of_ble_eq_true rfl) rfl k1)))))))))))))))))
theorem b_X3_solve_32 {l : Launch} {z d : Nat} {X : jX} {M : Nat → Int → Int} {Q : Option jV → jM → Prop} {x2 : Int} {x3 : Int} {x4 : Int} {x5 : Int}   (k1 : J l z X (d + 3) mX3_listAges (0, 0) 0 [jR 19, jR 1, jN, jN, jN, jN, jN] [] (jG, M) (fun r μ => J l z X (d + 4) mX3_solve (0, 0) 37 [jR 19, jR 1, jI x2, jI x3, jI x4, jI x5, jN] (r.toList ++ []) μ Q)) : J l z X (d + 4) mX3_solve (0, 0) 32 [jR 19, jR 1, jI x2, jI x3, jI x4, jI x5, jN] [] (jG, M) Q :=
  (J_aload_n dX3_solve_32 rfl (J_aload_n dX3_solve_33 rfl (J_callV (a1 := (0, 0)) (a2 := (0, 0)) (mm' := mX3_listAges) (S := []) [jR 1] md_X3_listAges im_X3_listAges se_X3_listAges dX3_solve_34 wm_X3_58 jcl_X3.1 rfl g_19 rfl rfl (Nat.le_of_ble_eq_true rfl) (Nat.le_of_ble_eq_true rfl) rfl k1)))
theorem b_X3_solve_37 {l : Launch} {z d : Nat} {X : jX} {M : Nat → Int → Int} {Q : Option jV → jM → Prop} {x2 : Int} {x3 : Int} {x4 : Int} {x5 : Int}  (s1 : jIn ((M 19 7) - 1)) (k1 : J l z X (d + 4) mX3_solve (0, 0) 45 [jR 19, jR 1, jI x2, jI x3, jI x4, jI x5, jI ((M 19 7) - 1)] [] (jG, M) Q) : J l z X (d + 4) mX3_solve (0, 0) 37 [jR 19, jR 1, jI x2, jI x3, jI x4, jI x5, jN] [] (jG, M) Q :=
  (J_aload_n dX3_solve_37 rfl (J_getI (k := 7) (kz := 7) jcl_X3 dX3_solve_38 wf_X3_44 g_19 (Nat.le_of_ble_eq_true rfl) rfl rfl (J_iconst dX3_solve_41 jc_1 (J_isub dX3_solve_42 s1 (J_istore dX3_solve_43 (Nat.le_of_ble_eq_true rfl) k1)))))
theorem b_X3_solve_45 {l : Launch} {z d : Nat} {X : jX} {M : Nat → Int → Int} {Q : Option jV → jM → Prop} {x2 : Int} {x3 : Int} {x4 : Int} {x5 : Int} {x6 : Int}   (k1 : x6 < 0 → J l z X (d + 3) mX3_fewestFrom (0, 0) 0 [jR 19, jI 0, jI 0, jI 0, jI 0, jN] [] (jG, M) (fun r μ => J l z X (d + 4) mX3_solve (0, 0) 70 [jR 19, jR 1, jI x2, jI x3, jI x4, jI x5, jI x6] (r.toList ++ []) μ Q)) (k2 : 0 ≤ x6 → J l z X (d + 3) mX3_countDay (0, 0) 0 [jR 19, jI x6, jN, jN, jN, jN] [] (jG, M) (fun r μ => J l z X (d + 4) mX3_solve (0, 0) 56 [jR 19, jR 1, jI x2, jI x3, jI x4, jI x5, jI x6] (r.toList ++ []) μ Q)) : J l z X (d + 4) mX3_solve (0, 0) 45 [jR 19, jR 1, jI x2, jI x3, jI x4, jI x5, jI x6] [] (jG, M) Q :=
  (J_iload dX3_solve_45 rfl (J_if_lt dX3_solve_47 (tgt := 62) (by decide) (fun c1 => (J_aload_n dX3_solve_62 rfl (J_iconst dX3_solve_63 jc_0 (J_iconst dX3_solve_64 jc_0 (J_iconst dX3_solve_65 jc_0 (J_iconst dX3_solve_66 jc_0 (J_callV (a1 := (0, 0)) (a2 := (0, 0)) (mm' := mX3_fewestFrom) (S := []) [jI 0, jI 0, jI 0, jI 0] md_X3_fewestFrom im_X3_fewestFrom se_X3_fewestFrom dX3_solve_67 wm_X3_66 jcl_X3.1 rfl g_19 rfl rfl (Nat.le_of_ble_eq_true rfl) (Nat.le_of_ble_eq_true rfl) rfl (k1 c1)))))))) (fun c1 => (J_aload_n dX3_solve_50 rfl (J_iload dX3_solve_51 rfl (J_callV (a1 := (0, 0)) (a2 := (0, 0)) (mm' := mX3_countDay) (S := []) [jI x6] md_X3_countDay im_X3_countDay se_X3_countDay dX3_solve_53 wm_X3_62 jcl_X3.1 rfl g_19 rfl rfl (Nat.le_of_ble_eq_true rfl) (Nat.le_of_ble_eq_true rfl) rfl (k2 c1)))))))
theorem b_X3_solve_56 {l : Launch} {z d : Nat} {X : jX} {M : Nat → Int → Int} {Q : Option jV → jM → Prop} {x2 : Int} {x3 : Int} {x4 : Int} {x5 : Int} {x6 : Int}  (s1 : jIn (x6 + (-1))) (k1 : J l z X (d + 4) mX3_solve (0, 0) 45 [jR 19, jR 1, jI x2, jI x3, jI x4, jI x5, jI (x6 + (-1))] [] (jG, M) Q) : J l z X (d + 4) mX3_solve (0, 0) 56 [jR 19, jR 1, jI x2, jI x3, jI x4, jI x5, jI x6] [] (jG, M) Q :=
  (J_iinc dX3_solve_56 rfl jc_m1 s1 (J_goto dX3_solve_59 (tgt := 45) (by decide) k1))
theorem b_X3_solve_70 {l : Launch} {z d : Nat} {X : jX} {M : Nat → Int → Int} {Q : Option jV → jM → Prop} {x2 : Int} {x3 : Int} {x4 : Int} {x5 : Int} {x6 : Int} {t0 : Int}   (k1 : 1000 ≤ t0 → Q (some (jI (-6))) (jG, M)) (k2 : t0 < 1000 → Q (some (jI t0)) (jG, M)) : J l z X (d + 4) mX3_solve (0, 0) 70 [jR 19, jR 1, jI x2, jI x3, jI x4, jI x5, jI x6] [jI t0] (jG, M) Q :=
  (J_istore dX3_solve_70 (Nat.le_of_ble_eq_true rfl) (J_iload dX3_solve_72 rfl (J_sipush dX3_solve_74 jc_1000 jsp_1000 (J_icmp_ge dX3_solve_77 (tgt := 85) (by decide) (fun c1 => (J_bipush dX3_solve_85 jc_m6 jb_m6 (J_iret dX3_solve_87 rfl (k1 c1)))) (fun c1 => (J_iload dX3_solve_80 rfl (J_goto dX3_solve_82 (tgt := 87) (by decide) (J_iret dX3_solve_87 rfl (k2 c1)))))))))
theorem b_X3_seat_0 {l : Launch} {z d : Nat} {X : jX} {M : Nat → Int → Int} {Q : Option jV → jM → Prop} {x2 : Int}   (k1 : J l z X (d + 1) mX3_seat (0, 0) 5 [jR 19, jR 1, jI x2, jI 0, jI 0] [] (jG, M) Q) : J l z X (d + 1) mX3_seat (0, 0) 0 [jR 19, jR 1, jI x2, jN, jN] [] (jG, M) Q :=
  (J_iconst dX3_seat_0 jc_0 (J_istore_n dX3_seat_1 (Nat.le_of_ble_eq_true rfl) (J_iconst dX3_seat_2 jc_0 (J_istore dX3_seat_3 (Nat.le_of_ble_eq_true rfl) k1))))
theorem b_X3_seat_5 {l : Launch} {z d : Nat} {X : jX} {M : Nat → Int → Int} {Q : Option jV → jM → Prop} {x2 : Int} {x3 : Int} {x4 : Int}  (s1 : x4 < 6 → x3 < 3 → (jand (jshr x2 x4) 1) = 1 → hasB (M 1 4) x4 = true → 0 ≤ x3) (s2 : x4 < 6 → x3 < 3 → (jand (jshr x2 x4) 1) = 1 → hasB (M 1 4) x4 = true → x3 < 3) (s3 : x4 < 6 → x3 < 3 → (jand (jshr x2 x4) 1) = 1 → hasB (M 1 4) x4 = true → jIn (x3 + 1)) (k1 : 6 ≤ x4 → J l z X (d + 1) mX3_seat (0, 0) 53 [jR 19, jR 1, jI x2, jI x3, jI x4] [] (jG, M) Q) (k2 : x4 < 6 → 3 ≤ x3 → J l z X (d + 1) mX3_seat (0, 0) 53 [jR 19, jR 1, jI x2, jI x3, jI x4] [] (jG, M) Q) (k3 : x4 < 6 → x3 < 3 → (jand (jshr x2 x4) 1) ≠ 1 → J l z X (d + 1) mX3_seat (0, 0) 47 [jR 19, jR 1, jI x2, jI x3, jI x4] [] (jG, M) Q) (k4 : x4 < 6 → x3 < 3 → (jand (jshr x2 x4) 1) = 1 → hasB (M 1 4) x4 = true → J l z X (d + 1) mX3_seat (0, 0) 47 [jR 19, jR 1, jI x2, jI (x3 + 1), jI x4] [] (jG, (jupd M 20 x3 x4)) Q) (k5 : x4 < 6 → x3 < 3 → (jand (jshr x2 x4) 1) = 1 → hasB (M 1 4) x4 = false → J l z X (d + 1) mX3_seat (0, 0) 47 [jR 19, jR 1, jI x2, jI x3, jI x4] [] (jG, M) Q) : J l z X (d + 1) mX3_seat (0, 0) 5 [jR 19, jR 1, jI x2, jI x3, jI x4] [] (jG, M) Q :=
  (J_iload dX3_seat_5 rfl (J_bipush dX3_seat_7 jc_6 jb_6 (J_icmp_ge dX3_seat_9 (tgt := 53) (by decide) (fun c1 => (k1 c1)) (fun c1 => (J_iload_n dX3_seat_12 rfl (J_iconst dX3_seat_13 jc_3 (J_icmp_ge dX3_seat_14 (tgt := 53) (by decide) (fun c2 => (k2 c1 c2)) (fun c2 => (J_iload_n dX3_seat_17 rfl (J_iload dX3_seat_18 rfl (J_ishr dX3_seat_20 (J_iconst dX3_seat_21 jc_1 (J_iand dX3_seat_22 (J_iconst dX3_seat_23 jc_1 (J_icmp_ne dX3_seat_24 (tgt := 47) (by decide) (fun c3 => (k3 c1 c2 c3)) (fun c3 => (J_aload_n dX3_seat_27 rfl (J_iload dX3_seat_28 rfl (J_callV (a1 := (0, 0)) (a2 := (0, 0)) (mm' := mX1_has) (S := []) [jI x4] md_X1_has im_X1_has se_X1_has dX3_seat_30 wm_X3_70 jcl_X1.1 rfl g_1 rfl rfl (Nat.le_of_ble_eq_true rfl) (Nat.le_of_ble_eq_true rfl) rfl (c_X1_has hi_1  (fun c4 => (J_if_eq dX3_seat_33 (tgt := 47) (by decide) (fun c => absurd c (by decide)) (fun _ => (J_aload_n dX3_seat_36 rfl (J_getR (k := 0) jcl_X3 dX3_seat_37 wf_X3_11 g_19 (Nat.le_of_ble_eq_true rfl) rfl rfl (J_iload_n dX3_seat_40 rfl (J_iload dX3_seat_41 rfl (J_iast dX3_seat_43 g_20 (s1 c1 c2 c3 c4) (s2 c1 c2 c3 c4) (J_iinc dX3_seat_44 rfl jc_1 (s3 c1 c2 c3 c4) (k4 c1 c2 c3 c4)))))))))) (fun c4 => (J_if_eq dX3_seat_33 (tgt := 47) (by decide) (fun _ => (k5 c1 c2 c3 c4)) (fun c => absurd c (by decide))))))))))))))))))))))))
theorem b_X3_seat_47 {l : Launch} {z d : Nat} {X : jX} {M : Nat → Int → Int} {Q : Option jV → jM → Prop} {x2 : Int} {x3 : Int} {x4 : Int}  (s1 : jIn (x4 + 1)) (k1 : J l z X (d + 1) mX3_seat (0, 0) 5 [jR 19, jR 1, jI x2, jI x3, jI (x4 + 1)] [] (jG, M) Q) : J l z X (d + 1) mX3_seat (0, 0) 47 [jR 19, jR 1, jI x2, jI x3, jI x4] [] (jG, M) Q :=
  (J_iinc dX3_seat_47 rfl jc_1 s1 (J_goto dX3_seat_50 (tgt := 5) (by decide) k1))
theorem b_X3_seat_53 {l : Launch} {z d : Nat} {X : jX} {M : Nat → Int → Int} {Q : Option jV → jM → Prop} {x2 : Int} {x3 : Int} {x4 : Int}   (k1 : J l z X (d + 1) mX3_seat (0, 0) 56 [jR 19, jR 1, jI x2, jI x3, jI x3] [] (jG, M) Q) : J l z X (d + 1) mX3_seat (0, 0) 53 [jR 19, jR 1, jI x2, jI x3, jI x4] [] (jG, M) Q :=
  (J_iload_n dX3_seat_53 rfl (J_istore dX3_seat_54 (Nat.le_of_ble_eq_true rfl) k1))
theorem b_X3_seat_56 {l : Launch} {z d : Nat} {X : jX} {M : Nat → Int → Int} {Q : Option jV → jM → Prop} {x2 : Int} {x3 : Int} {x4 : Int}  (s1 : x4 < 3 → 0 ≤ x4) (s2 : x4 < 3 → x4 < 3) (s3 : x4 < 3 → jIn (x4 + 1)) (k1 : 3 ≤ x4 → Q none (jG, M)) (k2 : x4 < 3 → J l z X (d + 1) mX3_seat (0, 0) 56 [jR 19, jR 1, jI x2, jI x3, jI (x4 + 1)] [] (jG, (jupd M 20 x4 (-6))) Q) : J l z X (d + 1) mX3_seat (0, 0) 56 [jR 19, jR 1, jI x2, jI x3, jI x4] [] (jG, M) Q :=
  (J_iload dX3_seat_56 rfl (J_iconst dX3_seat_58 jc_3 (J_icmp_ge dX3_seat_59 (tgt := 77) (by decide) (fun c1 => (J_vret dX3_seat_77 rfl (k1 c1))) (fun c1 => (J_aload_n dX3_seat_62 rfl (J_getR (k := 0) jcl_X3 dX3_seat_63 wf_X3_11 g_19 (Nat.le_of_ble_eq_true rfl) rfl rfl (J_iload dX3_seat_66 rfl (J_bipush dX3_seat_68 jc_m6 jb_m6 (J_iast dX3_seat_70 g_20 (s1 c1) (s2 c1) (J_iinc dX3_seat_71 rfl jc_1 (s3 c1) (J_goto dX3_seat_74 (tgt := 56) (by decide) (k2 c1))))))))))))
theorem b_X3_listAges_0 {l : Launch} {z d : Nat} {X : jX} {M : Nat → Int → Int} {Q : Option jV → jM → Prop}    (k1 : J l z X (d + 3) mX3_listAges (0, 0) 4 [jR 19, jR 1, jI 0, jI 0, jN, jN, jN] [] (jG, M) Q) : J l z X (d + 3) mX3_listAges (0, 0) 0 [jR 19, jR 1, jN, jN, jN, jN, jN] [] (jG, M) Q :=
  (J_iconst dX3_listAges_0 jc_0 (J_istore_n dX3_listAges_1 (Nat.le_of_ble_eq_true rfl) (J_iconst dX3_listAges_2 jc_0 (J_istore_n dX3_listAges_3 (Nat.le_of_ble_eq_true rfl) k1))))
theorem b_X3_listAges_4 {l : Launch} {z d : Nat} {X : jX} {M : Nat → Int → Int} {Q : Option jV → jM → Prop} {x2 : Int} {x3 : Int}   (k1 : (M 19 7) < x3 → Q none (jG, M)) (k2 : x3 ≤ (M 19 7) → 6 < x3 → Q none (jG, M)) (k3 : x3 ≤ (M 19 7) → x3 ≤ 6 → J l z X (d + 3) mX3_listAges (0, 0) 24 [jR 19, jR 1, jI x2, jI x3, jI 1, jI 0, jN] [] (jG, M) Q) : J l z X (d + 3) mX3_listAges (0, 0) 4 [jR 19, jR 1, jI x2, jI x3, jN, jN, jN] [] (jG, M) Q :=
  (J_iload_n dX3_listAges_4 rfl (J_aload_n dX3_listAges_5 rfl (J_getI (k := 7) (kz := 7) jcl_X3 dX3_listAges_6 wf_X3_44 g_19 (Nat.le_of_ble_eq_true rfl) rfl rfl (J_icmp_gt dX3_listAges_9 (tgt := 138) (by decide) (fun c1 => (J_vret dX3_listAges_138 rfl (k1 c1))) (fun c1 => (J_iload_n dX3_listAges_12 rfl (J_bipush dX3_listAges_13 jc_6 jb_6 (J_icmp_gt dX3_listAges_15 (tgt := 138) (by decide) (fun c2 => (J_vret dX3_listAges_138 rfl (k2 c1 c2))) (fun c2 => (J_iconst dX3_listAges_18 jc_1 (J_istore dX3_listAges_19 (Nat.le_of_ble_eq_true rfl) (J_iconst dX3_listAges_21 jc_0 (J_istore dX3_listAges_22 (Nat.le_of_ble_eq_true rfl) (k3 c1 c2))))))))))))))
theorem b_X3_listAges_24 {l : Launch} {z d : Nat} {X : jX} {M : Nat → Int → Int} {Q : Option jV → jM → Prop} {x2 : Int} {x3 : Int} {x4 : Int} {x5 : Int}  (s1 : 3 ≤ x5 → 0 ≤ x3) (s2 : 3 ≤ x5 → x3 < 7) (s3 : 3 ≤ x5 → jIn (x2 + x4)) (s4 : 3 ≤ x5 → jIn (x3 + 1)) (s5 : x5 < 3 → jIn (x3 * 3)) (s6 : x5 < 3 → jIn ((x3 * 3) + x5)) (s7 : x5 < 3 → x3 ≠ 0 → jIn (x3 - 1)) (s8 : x5 < 3 → x3 = 0 → 0 ≤ ((x3 * 3) + x5)) (s9 : x5 < 3 → x3 = 0 → ((x3 * 3) + x5) < 21) (s10 : x5 < 3 → x3 = 0 → 0 ≤ x5) (s11 : x5 < 3 → x3 = 0 → x5 < 3) (s12 : x5 < 3 → x3 = 0 → hasB (M 1 4) (M 20 x5) = true → 0 ≤ x5) (s13 : x5 < 3 → x3 = 0 → hasB (M 1 4) (M 20 x5) = true → x5 < 3) (s14 : x5 < 3 → x3 = 0 → hasB (M 1 4) (M 20 x5) = true → 0 ≤ (M 20 x5)) (s15 : x5 < 3 → x3 = 0 → hasB (M 1 4) (M 20 x5) = true → (M 20 x5) < 6) (k1 : 3 ≤ x5 → J l z X (d + 3) mX3_listAges (0, 0) 4 [jR 19, jR 1, jI (x2 + x4), jI (x3 + 1), jN, jN, jN] [] (jG, (jupd M 64 x3 x2)) Q) (k2 : x5 < 3 → x3 ≠ 0 → J l z X (d + 2) mX3_listNext (0, 0) 0 [jR 19, jR 1, jI (x3 - 1), jI x5, jN, jN, jN, jN, jN, jN] [] (jG, M) (fun r μ => J l z X (d + 3) mX3_listAges (0, 0) 102 [jR 19, jR 1, jI x2, jI x3, jI x4, jI x5, jI ((x3 * 3) + x5)] (r.toList ++ []) μ Q)) (k3 : x5 < 3 → x3 = 0 → hasB (M 1 4) (M 20 x5) = true → J l z X (d + 3) mX3_listAges (0, 0) 80 [jR 19, jR 1, jI x2, jI x3, jI x4, jI x5, jI ((x3 * 3) + x5)] [jI (M 2 (M 20 x5)), jI 0, jR (22 + ((x3 * 3) + x5).toNat)] (jG, M) Q) (k4 : x5 < 3 → x3 = 0 → hasB (M 1 4) (M 20 x5) = false → J l z X (d + 3) mX3_listAges (0, 0) 80 [jR 19, jR 1, jI x2, jI x3, jI x4, jI x5, jI ((x3 * 3) + x5)] [jI 0, jI 0, jR (22 + ((x3 * 3) + x5).toNat)] (jG, M) Q) : J l z X (d + 3) mX3_listAges (0, 0) 24 [jR 19, jR 1, jI x2, jI x3, jI x4, jI x5, jN] [] (jG, M) Q :=
  (J_iload dX3_listAges_24 rfl (J_iconst dX3_listAges_26 jc_3 (J_icmp_ge dX3_listAges_27 (tgt := 120) (by decide) (fun c1 => (J_aload_n dX3_listAges_120 rfl (J_getR (k := 5) jcl_X3 dX3_listAges_121 wf_X3_29 g_19 (Nat.le_of_ble_eq_true rfl) rfl rfl (J_iload_n dX3_listAges_124 rfl (J_iload_n dX3_listAges_125 rfl (J_iast dX3_listAges_126 g_64 (s1 c1) (s2 c1) (J_iload_n dX3_listAges_127 rfl (J_iload dX3_listAges_128 rfl (J_iadd dX3_listAges_130 (s3 c1) (J_istore_n dX3_listAges_131 (Nat.le_of_ble_eq_true rfl) (J_iinc dX3_listAges_132 rfl jc_1 (s4 c1) (J_goto dX3_listAges_135 (tgt := 4) (by decide) (J_weak [jR 19, jR 1, jI (x2 + x4), jI (x3 + 1), jN, jN, jN] ⟨Or.inr rfl, Or.inr rfl, Or.inr rfl, Or.inr rfl, Or.inl rfl, Or.inl rfl, Or.inr rfl, trivial⟩ (k1 c1)))))))))))))) (fun c1 => (J_iload_n dX3_listAges_30 rfl (J_iconst dX3_listAges_31 jc_3 (J_imul dX3_listAges_32 (s5 c1) (J_iload dX3_listAges_33 rfl (J_iadd dX3_listAges_35 (s6 c1) (J_istore dX3_listAges_36 (Nat.le_of_ble_eq_true rfl) (J_iload_n dX3_listAges_38 rfl (J_if_ne dX3_listAges_39 (tgt := 92) (by decide) (fun c2 => (J_aload_n dX3_listAges_92 rfl (J_aload_n dX3_listAges_93 rfl (J_iload_n dX3_listAges_94 rfl (J_iconst dX3_listAges_95 jc_1 (J_isub dX3_listAges_96 (s7 c1 c2) (J_iload dX3_listAges_97 rfl (J_callV (a1 := (0, 0)) (a2 := (0, 0)) (mm' := mX3_listNext) (S := []) [jR 1, jI (x3 - 1), jI x5] md_X3_listNext im_X3_listNext se_X3_listNext dX3_listAges_99 wm_X3_79 jcl_X3.1 rfl g_19 rfl rfl (Nat.le_of_ble_eq_true rfl) (Nat.le_of_ble_eq_true rfl) rfl (k2 c1 c2))))))))) (fun c2 => (J_aload_n dX3_listAges_42 rfl (J_getR (k := 1) jcl_X3 dX3_listAges_43 wf_X3_17 g_19 (Nat.le_of_ble_eq_true rfl) rfl rfl (J_iload dX3_listAges_46 rfl (J_aald3 dX3_listAges_48 g_21 (s8 c1 c2) (s9 c1 c2) (gr_21 (s8 c1 c2) (s9 c1 c2)).1 (J_iconst dX3_listAges_49 jc_0 (J_aload_n dX3_listAges_50 rfl (J_aload_n dX3_listAges_51 rfl (J_getR (k := 0) jcl_X3 dX3_listAges_52 wf_X3_11 g_19 (Nat.le_of_ble_eq_true rfl) rfl rfl (J_iload dX3_listAges_55 rfl (J_iald dX3_listAges_57 g_20 (s10 c1 c2) (s11 c1 c2) (J_callV (a1 := (0, 0)) (a2 := (0, 0)) (mm' := mX1_has) (S := [jI 0, jR (22 + ((x3 * 3) + x5).toNat)]) [jI (M 20 x5)] md_X1_has im_X1_has se_X1_has dX3_listAges_58 wm_X3_70 jcl_X1.1 rfl g_1 rfl rfl (Nat.le_of_ble_eq_true rfl) (Nat.le_of_ble_eq_true rfl) rfl (c_X1_has hi_1  (fun c3 => (J_if_eq dX3_listAges_61 (tgt := 79) (by decide) (fun c => absurd c (by decide)) (fun _ => (J_aload_n dX3_listAges_64 rfl (J_getRN (k := 0) jcl_X1 dX3_listAges_65 wf_X3_76 g_1 (Nat.le_of_ble_eq_true rfl) rfl rfl (J_aload_n dX3_listAges_68 rfl (J_getR (k := 0) jcl_X3 dX3_listAges_69 wf_X3_11 g_19 (Nat.le_of_ble_eq_true rfl) rfl rfl (J_iload dX3_listAges_72 rfl (J_iald dX3_listAges_74 g_20 (s12 c1 c2 c3) (s13 c1 c2 c3) (J_iald dX3_listAges_75 g_2 (s14 c1 c2 c3) (s15 c1 c2 c3) (J_goto dX3_listAges_76 (tgt := 80) (by decide) (k3 c1 c2 c3)))))))))))) (fun c3 => (J_if_eq dX3_listAges_61 (tgt := 79) (by decide) (fun _ => (J_iconst dX3_listAges_79 jc_0 (k4 c1 c2 c3))) (fun c => absurd c (by decide)))))))))))))))))))))))))))))
theorem b_X3_listAges_80 {l : Launch} {z d : Nat} {X : jX} {M : Nat → Int → Int} {Q : Option jV → jM → Prop} {x2 : Int} {x3 : Int} {x4 : Int} {x5 : Int} {x6 : Int} {r0 : Nat} {t1 : Int} {t2 : Int} (hr0 : jG[r0]? = some (0, 13, [])) (s1 : 0 ≤ t1) (s2 : t1 < 13) (s3 : 0 ≤ x6) (s4 : x6 < 21) (k1 : J l z X (d + 3) mX3_listAges (0, 0) 102 [jR 19, jR 1, jI x2, jI x3, jI x4, jI x5, jI x6] [] (jG, (jupd (jupd M r0 t1 t2) 43 x6 1)) Q) : J l z X (d + 3) mX3_listAges (0, 0) 80 [jR 19, jR 1, jI x2, jI x3, jI x4, jI x5, jI x6] [jI t2, jI t1, jR r0] (jG, M) Q :=
  (J_iast dX3_listAges_80 hr0 s1 s2 (J_aload_n dX3_listAges_81 rfl (J_getR (k := 2) jcl_X3 dX3_listAges_82 wf_X3_20 g_19 (Nat.le_of_ble_eq_true rfl) rfl rfl (J_iload dX3_listAges_85 rfl (J_iconst dX3_listAges_87 jc_1 (J_iast dX3_listAges_88 g_43 s3 s4 (J_goto dX3_listAges_89 (tgt := 102) (by decide) k1)))))))
theorem b_X3_listAges_102 {l : Launch} {z d : Nat} {X : jX} {M : Nat → Int → Int} {Q : Option jV → jM → Prop} {x2 : Int} {x3 : Int} {x4 : Int} {x5 : Int} {x6 : Int}  (s1 : 0 ≤ x6) (s2 : x6 < 21) (s3 : jIn (x4 * (M 43 x6))) (s4 : jIn (x5 + 1)) (k1 : J l z X (d + 3) mX3_listAges (0, 0) 24 [jR 19, jR 1, jI x2, jI x3, jI (x4 * (M 43 x6)), jI (x5 + 1), jN] [] (jG, M) Q) : J l z X (d + 3) mX3_listAges (0, 0) 102 [jR 19, jR 1, jI x2, jI x3, jI x4, jI x5, jI x6] [] (jG, M) Q :=
  (J_iload dX3_listAges_102 rfl (J_aload_n dX3_listAges_104 rfl (J_getR (k := 2) jcl_X3 dX3_listAges_105 wf_X3_20 g_19 (Nat.le_of_ble_eq_true rfl) rfl rfl (J_iload dX3_listAges_108 rfl (J_iald dX3_listAges_110 g_43 s1 s2 (J_imul dX3_listAges_111 s3 (J_istore dX3_listAges_112 (Nat.le_of_ble_eq_true rfl) (J_iinc dX3_listAges_114 rfl jc_1 s4 (J_goto dX3_listAges_117 (tgt := 24) (by decide) (J_weak [jR 19, jR 1, jI x2, jI x3, jI (x4 * (M 43 x6)), jI (x5 + 1), jN] ⟨Or.inr rfl, Or.inr rfl, Or.inr rfl, Or.inr rfl, Or.inr rfl, Or.inr rfl, Or.inl rfl, trivial⟩ k1))))))))))
theorem b_X3_listNext_0 {l : Launch} {z d : Nat} {X : jX} {M : Nat → Int → Int} {Q : Option jV → jM → Prop} {x2 : Int} {x3 : Int}  (s1 : jIn (x2 * 3)) (s2 : jIn ((x2 * 3) + x3)) (s3 : 0 ≤ x2 → 0 ≤ x3 → x3 < 3 → ((x2 * 3) + x3) < 18 → jIn (((x2 * 3) + x3) + 3)) (s4 : 0 ≤ x2 → 0 ≤ x3 → x3 < 3 → ((x2 * 3) + x3) < 18 → 0 ≤ (((x2 * 3) + x3) + 3)) (s5 : 0 ≤ x2 → 0 ≤ x3 → x3 < 3 → ((x2 * 3) + x3) < 18 → (((x2 * 3) + x3) + 3) < 21) (k1 : x2 < 0 → Q none (jG, M)) (k2 : 0 ≤ x2 → x3 < 0 → Q none (jG, M)) (k3 : 0 ≤ x2 → 0 ≤ x3 → 3 ≤ x3 → Q none (jG, M)) (k4 : 0 ≤ x2 → 0 ≤ x3 → x3 < 3 → ((x2 * 3) + x3) < 18 → J l z X (d + 2) mX3_listNext (0, 0) 44 [jR 19, jR 1, jI x2, jI x3, jI ((x2 * 3) + x3), jI 0, jN, jN, jN, jN] [] (jG, (jupd M 43 (((x2 * 3) + x3) + 3) 0)) Q) (k5 : 0 ≤ x2 → 0 ≤ x3 → x3 < 3 → 18 ≤ ((x2 * 3) + x3) → Q none (jG, M)) : J l z X (d + 2) mX3_listNext (0, 0) 0 [jR 19, jR 1, jI x2, jI x3, jN, jN, jN, jN, jN, jN] [] (jG, M) Q :=
  (J_iload_n dX3_listNext_0 rfl (J_iconst dX3_listNext_1 jc_3 (J_imul dX3_listNext_2 s1 (J_iload_n dX3_listNext_3 rfl (J_iadd dX3_listNext_4 s2 (J_istore dX3_listNext_5 (Nat.le_of_ble_eq_true rfl) (J_iload_n dX3_listNext_7 rfl (J_if_lt dX3_listNext_8 (tgt := 30) (by decide) (fun c1 => (J_vret dX3_listNext_30 rfl (k1 c1))) (fun c1 => (J_iload_n dX3_listNext_11 rfl (J_if_lt dX3_listNext_12 (tgt := 30) (by decide) (fun c2 => (J_vret dX3_listNext_30 rfl (k2 c1 c2))) (fun c2 => (J_iload_n dX3_listNext_15 rfl (J_iconst dX3_listNext_16 jc_3 (J_icmp_ge dX3_listNext_17 (tgt := 30) (by decide) (fun c3 => (J_vret dX3_listNext_30 rfl (k3 c1 c2 c3))) (fun c3 => (J_iload dX3_listNext_20 rfl (J_aload_n dX3_listNext_22 rfl (J_getR (k := 3) jcl_X3 dX3_listNext_23 wf_X3_23 g_19 (Nat.le_of_ble_eq_true rfl) rfl rfl (J_alen3 dX3_listNext_26 g_44 (Nat.le_of_ble_eq_true rfl) (J_icmp_lt dX3_listNext_27 (tgt := 31) (by decide) (fun c4 => (J_aload_n dX3_listNext_31 rfl (J_getR (k := 2) jcl_X3 dX3_listNext_32 wf_X3_20 g_19 (Nat.le_of_ble_eq_true rfl) rfl rfl (J_iload dX3_listNext_35 rfl (J_iconst dX3_listNext_37 jc_3 (J_iadd dX3_listNext_38 (s3 c1 c2 c3 c4) (J_iconst dX3_listNext_39 jc_0 (J_iast dX3_listNext_40 g_43 (s4 c1 c2 c3 c4) (s5 c1 c2 c3 c4) (J_iconst dX3_listNext_41 jc_0 (J_istore dX3_listNext_42 (Nat.le_of_ble_eq_true rfl) (k4 c1 c2 c3 c4))))))))))) (fun c4 => (J_vret dX3_listNext_30 rfl (k5 c1 c2 c3 c4))))))))))))))))))))))))
theorem b_X3_listNext_44 {l : Launch} {z d : Nat} {X : jX} {M : Nat → Int → Int} {Q : Option jV → jM → Prop} {x2 : Int} {x3 : Int} {x4 : Int} {x5 : Int}  (s1 : 0 ≤ x4) (s2 : x4 < 21) (k1 : (M 43 x4) ≤ x5 → Q none (jG, M)) (k2 : x5 < (M 43 x4) → 13 ≤ x5 → Q none (jG, M)) (k3 : x5 < (M 43 x4) → x5 < 13 → J l z X (d + 2) mX3_listNext (0, 0) 66 [jR 19, jR 1, jI x2, jI x3, jI x4, jI x5, jI 0, jN, jN, jN] [] (jG, M) Q) : J l z X (d + 2) mX3_listNext (0, 0) 44 [jR 19, jR 1, jI x2, jI x3, jI x4, jI x5, jN, jN, jN, jN] [] (jG, M) Q :=
  (J_iload dX3_listNext_44 rfl (J_aload_n dX3_listNext_46 rfl (J_getR (k := 2) jcl_X3 dX3_listNext_47 wf_X3_20 g_19 (Nat.le_of_ble_eq_true rfl) rfl rfl (J_iload dX3_listNext_50 rfl (J_iald dX3_listNext_52 g_43 s1 s2 (J_icmp_ge dX3_listNext_53 (tgt := 217) (by decide) (fun c1 => (J_vret dX3_listNext_217 rfl (k1 c1))) (fun c1 => (J_iload dX3_listNext_56 rfl (J_bipush dX3_listNext_58 jc_13 jb_13 (J_icmp_ge dX3_listNext_60 (tgt := 217) (by decide) (fun c2 => (J_vret dX3_listNext_217 rfl (k2 c1 c2))) (fun c2 => (J_iconst dX3_listNext_63 jc_0 (J_istore dX3_listNext_64 (Nat.le_of_ble_eq_true rfl) (k3 c1 c2))))))))))))))
theorem b_X3_listNext_66 {l : Launch} {z d : Nat} {X : jX} {M : Nat → Int → Int} {Q : Option jV → jM → Prop} {x2 : Int} {x3 : Int} {x4 : Int} {x5 : Int} {x6 : Int}  (s1 : 3 ≤ x6 → jIn (x5 + 1)) (s2 : x6 < 3 → x6 ≠ 0 → 0 ≤ x3) (s3 : x6 < 3 → x6 ≠ 0 → x3 < 3) (s4 : x6 < 3 → x6 ≠ 0 → 0 ≤ x4) (s5 : x6 < 3 → x6 ≠ 0 → x4 < 21) (s6 : x6 < 3 → x6 ≠ 0 → 0 ≤ x5) (s7 : x6 < 3 → x6 ≠ 0 → x5 < 13) (s8 : x6 < 3 → x6 ≠ 0 → jIn ((M 19 7) - x2)) (k1 : 3 ≤ x6 → J l z X (d + 2) mX3_listNext (0, 0) 44 [jR 19, jR 1, jI x2, jI x3, jI x4, jI (x5 + 1), jN, jN, jN, jN] [] (jG, M) Q) (k2 : x6 < 3 → x6 = 0 → J l z X (d + 2) mX3_listNext (0, 0) 107 [jR 19, jR 1, jI x2, jI x3, jI x4, jI x5, jI x6, jN, jN, jN] [] (jG, M) Q) (k3 : x6 < 3 → x6 ≠ 0 → J l z X (d + 1) mX3_lastsRest (0, 0) 0 [jR 19, jR 1, jI (M 20 x3), jI (M (22 + x4.toNat) x5), jI ((M 19 7) - x2)] [] (jG, M) (fun r μ => J l z X (d + 2) mX3_listNext (0, 0) 104 [jR 19, jR 1, jI x2, jI x3, jI x4, jI x5, jI x6, jN, jN, jN] (r.toList ++ []) μ Q)) : J l z X (d + 2) mX3_listNext (0, 0) 66 [jR 19, jR 1, jI x2, jI x3, jI x4, jI x5, jI x6, jN, jN, jN] [] (jG, M) Q :=
  (J_iload dX3_listNext_66 rfl (J_iconst dX3_listNext_68 jc_3 (J_icmp_ge dX3_listNext_69 (tgt := 211) (by decide) (fun c1 => (J_iinc dX3_listNext_211 rfl jc_1 (s1 c1) (J_goto dX3_listNext_214 (tgt := 44) (by decide) (J_weak [jR 19, jR 1, jI x2, jI x3, jI x4, jI (x5 + 1), jN, jN, jN, jN] ⟨Or.inr rfl, Or.inr rfl, Or.inr rfl, Or.inr rfl, Or.inr rfl, Or.inr rfl, Or.inl rfl, Or.inr rfl, Or.inr rfl, Or.inr rfl, trivial⟩ (k1 c1))))) (fun c1 => (J_iload dX3_listNext_72 rfl (J_if_eq dX3_listNext_74 (tgt := 107) (by decide) (fun c2 => (k2 c1 c2)) (fun c2 => (J_aload_n dX3_listNext_77 rfl (J_aload_n dX3_listNext_78 rfl (J_aload_n dX3_listNext_79 rfl (J_getR (k := 0) jcl_X3 dX3_listNext_80 wf_X3_11 g_19 (Nat.le_of_ble_eq_true rfl) rfl rfl (J_iload_n dX3_listNext_83 rfl (J_iald dX3_listNext_84 g_20 (s2 c1 c2) (s3 c1 c2) (J_aload_n dX3_listNext_85 rfl (J_getR (k := 1) jcl_X3 dX3_listNext_86 wf_X3_17 g_19 (Nat.le_of_ble_eq_true rfl) rfl rfl (J_iload dX3_listNext_89 rfl (J_aald3 dX3_listNext_91 g_21 (s4 c1 c2) (s5 c1 c2) (gr_21 (s4 c1 c2) (s5 c1 c2)).1 (J_iload dX3_listNext_92 rfl (J_iald dX3_listNext_94 (gr_21 (s4 c1 c2) (s5 c1 c2)).2 (s6 c1 c2) (s7 c1 c2) (J_aload_n dX3_listNext_95 rfl (J_getI (k := 7) (kz := 7) jcl_X3 dX3_listNext_96 wf_X3_44 g_19 (Nat.le_of_ble_eq_true rfl) rfl rfl (J_iload_n dX3_listNext_99 rfl (J_isub dX3_listNext_100 (s8 c1 c2) (J_callV (a1 := (0, 0)) (a2 := (0, 0)) (mm' := mX3_lastsRest) (S := []) [jR 1, jI (M 20 x3), jI (M (22 + x4.toNat) x5), jI ((M 19 7) - x2)] md_X3_lastsRest im_X3_lastsRest se_X3_lastsRest dX3_listNext_101 wm_X3_83 jcl_X3.1 rfl g_19 rfl rfl (Nat.le_of_ble_eq_true rfl) (Nat.le_of_ble_eq_true rfl) rfl (k3 c1 c2)))))))))))))))))))))))))
theorem b_X3_listNext_104 {l : Launch} {z d : Nat} {X : jX} {M : Nat → Int → Int} {Q : Option jV → jM → Prop} {x2 : Int} {x3 : Int} {x4 : Int} {x5 : Int} {x6 : Int} {t0 : Int}   (k1 : t0 ≠ 0 → J l z X (d + 2) mX3_listNext (0, 0) 112 [jR 19, jR 1, jI x2, jI x3, jI x4, jI x5, jI x6, jN, jN, jN] [jI 0] (jG, M) Q) (k2 : t0 = 0 → J l z X (d + 2) mX3_listNext (0, 0) 107 [jR 19, jR 1, jI x2, jI x3, jI x4, jI x5, jI x6, jN, jN, jN] [] (jG, M) Q) : J l z X (d + 2) mX3_listNext (0, 0) 104 [jR 19, jR 1, jI x2, jI x3, jI x4, jI x5, jI x6, jN, jN, jN] [jI t0] (jG, M) Q :=
  (J_if_ne dX3_listNext_104 (tgt := 111) (by decide) (fun c1 => (J_iconst dX3_listNext_111 jc_0 (k1 c1))) (fun c1 => (k2 c1)))
theorem b_X3_listNext_107 {l : Launch} {z d : Nat} {X : jX} {M : Nat → Int → Int} {Q : Option jV → jM → Prop} {x2 : Int} {x3 : Int} {x4 : Int} {x5 : Int} {x6 : Int}   (k1 : J l z X (d + 2) mX3_listNext (0, 0) 112 [jR 19, jR 1, jI x2, jI x3, jI x4, jI x5, jI x6, jN, jN, jN] [jI 1] (jG, M) Q) : J l z X (d + 2) mX3_listNext (0, 0) 107 [jR 19, jR 1, jI x2, jI x3, jI x4, jI x5, jI x6, jN, jN, jN] [] (jG, M) Q :=
  (J_iconst dX3_listNext_107 jc_1 (J_goto dX3_listNext_108 (tgt := 112) (by decide) k1))
theorem b_X3_listNext_112 {l : Launch} {z d : Nat} {X : jX} {M : Nat → Int → Int} {Q : Option jV → jM → Prop} {x2 : Int} {x3 : Int} {x4 : Int} {x5 : Int} {x6 : Int} {t0 : Int}  (s1 : 0 ≤ x3) (s2 : x3 < 3) (s3 : 0 ≤ x4) (s4 : x4 < 21) (s5 : 0 ≤ x5) (s6 : x5 < 13) (s7 : hasB (M 1 4) (M 20 x3) = true → (-1000 ≤ (M (22 + x4.toNat) x5) ∧ (M (22 + x4.toNat) x5) ≤ 1000) ∧ (0 ≤ (M 3 (M 20 x3)) ∧ (M 3 (M 20 x3)) ≤ 9)) (s8 : t0 ≠ 0 → (M 19 9) < (agH (hasB (M 1 4) (M 20 x3)) (M 3 (M 20 x3)) (M 4 (M 20 x3)) (M (22 + x4.toNat) x5) x6) → 0 ≤ x3) (s9 : t0 ≠ 0 → (M 19 9) < (agH (hasB (M 1 4) (M 20 x3)) (M 3 (M 20 x3)) (M 4 (M 20 x3)) (M (22 + x4.toNat) x5) x6) → x3 < 3) (k1 : t0 = 0 → J l z X (d + 2) mX3_listNext (0, 0) 167 [jR 19, jR 1, jI x2, jI x3, jI x4, jI x5, jI x6, jI t0, jI (agH (hasB (M 1 4) (M 20 x3)) (M 3 (M 20 x3)) (M 4 (M 20 x3)) (M (22 + x4.toNat) x5) x6), jN] [] (jG, M) Q) (k2 : t0 ≠ 0 → (agH (hasB (M 1 4) (M 20 x3)) (M 3 (M 20 x3)) (M 4 (M 20 x3)) (M (22 + x4.toNat) x5) x6) ≤ (M 19 9) → J l z X (d + 2) mX3_listNext (0, 0) 163 [jR 19, jR 1, jI x2, jI x3, jI x4, jI x5, jI x6, jI t0, jI (agH (hasB (M 1 4) (M 20 x3)) (M 3 (M 20 x3)) (M 4 (M 20 x3)) (M (22 + x4.toNat) x5) x6), jN] [] (jG, M) Q) (k3 : t0 ≠ 0 → (M 19 9) < (agH (hasB (M 1 4) (M 20 x3)) (M 3 (M 20 x3)) (M 4 (M 20 x3)) (M (22 + x4.toNat) x5) x6) → (M 20 x3) ≠ (-6) → J l z X (d + 2) mX3_listNext (0, 0) 167 [jR 19, jR 1, jI x2, jI x3, jI x4, jI x5, jI x6, jI t0, jI (agH (hasB (M 1 4) (M 20 x3)) (M 3 (M 20 x3)) (M 4 (M 20 x3)) (M (22 + x4.toNat) x5) x6), jN] [] (jG, M) Q) (k4 : t0 ≠ 0 → (M 19 9) < (agH (hasB (M 1 4) (M 20 x3)) (M 3 (M 20 x3)) (M 4 (M 20 x3)) (M (22 + x4.toNat) x5) x6) → (M 20 x3) = (-6) → J l z X (d + 2) mX3_listNext (0, 0) 163 [jR 19, jR 1, jI x2, jI x3, jI x4, jI x5, jI x6, jI t0, jI (agH (hasB (M 1 4) (M 20 x3)) (M 3 (M 20 x3)) (M 4 (M 20 x3)) (M (22 + x4.toNat) x5) x6), jN] [] (jG, M) Q) : J l z X (d + 2) mX3_listNext (0, 0) 112 [jR 19, jR 1, jI x2, jI x3, jI x4, jI x5, jI x6, jN, jN, jN] [jI t0] (jG, M) Q :=
  (J_istore dX3_listNext_112 (Nat.le_of_ble_eq_true rfl) (J_aload_n dX3_listNext_114 rfl (J_aload_n dX3_listNext_115 rfl (J_getR (k := 0) jcl_X3 dX3_listNext_116 wf_X3_11 g_19 (Nat.le_of_ble_eq_true rfl) rfl rfl (J_iload_n dX3_listNext_119 rfl (J_iald dX3_listNext_120 g_20 s1 s2 (J_aload_n dX3_listNext_121 rfl (J_getR (k := 1) jcl_X3 dX3_listNext_122 wf_X3_17 g_19 (Nat.le_of_ble_eq_true rfl) rfl rfl (J_iload dX3_listNext_125 rfl (J_aald3 dX3_listNext_127 g_21 s3 s4 (gr_21 s3 s4).1 (J_iload dX3_listNext_128 rfl (J_iald dX3_listNext_130 (gr_21 s3 s4).2 s5 s6 (J_iload dX3_listNext_131 rfl (J_callV (a1 := (0, 0)) (a2 := (0, 0)) (mm' := mX1_aged) (S := []) [jI (M 20 x3), jI (M (22 + x4.toNat) x5), jI x6] md_X1_aged im_X1_aged se_X1_aged dX3_listNext_133 wm_X3_87 jcl_X1.1 rfl g_1 rfl rfl (Nat.le_of_ble_eq_true rfl) (Nat.le_of_ble_eq_true rfl) rfl (c_X1_aged hi_1 s7 (J_istore dX3_listNext_136 (Nat.le_of_ble_eq_true rfl) (J_iload dX3_listNext_138 rfl (J_if_eq dX3_listNext_140 (tgt := 167) (by decide) (fun c1 => (k1 c1)) (fun c1 => (J_iload dX3_listNext_143 rfl (J_aload_n dX3_listNext_145 rfl (J_getI (k := 9) (kz := 9) jcl_X3 dX3_listNext_146 wf_X3_51 g_19 (Nat.le_of_ble_eq_true rfl) rfl rfl (J_icmp_le dX3_listNext_149 (tgt := 163) (by decide) (fun c2 => (k2 c1 c2)) (fun c2 => (J_aload_n dX3_listNext_152 rfl (J_getR (k := 0) jcl_X3 dX3_listNext_153 wf_X3_11 g_19 (Nat.le_of_ble_eq_true rfl) rfl rfl (J_iload_n dX3_listNext_156 rfl (J_iald dX3_listNext_157 g_20 (s8 c1 c2) (s9 c1 c2) (J_bipush dX3_listNext_158 jc_m6 jb_m6 (J_icmp_ne dX3_listNext_160 (tgt := 167) (by decide) (fun c3 => (k3 c1 c2 c3)) (fun c3 => (k4 c1 c2 c3))))))))))))))))))))))))))))))))
theorem b_X3_listNext_163 {l : Launch} {z d : Nat} {X : jX} {M : Nat → Int → Int} {Q : Option jV → jM → Prop} {x2 : Int} {x3 : Int} {x4 : Int} {x5 : Int} {x6 : Int} {x7 : Int} {x8 : Int}   (k1 : J l z X (d + 2) mX3_listNext (0, 0) 168 [jR 19, jR 1, jI x2, jI x3, jI x4, jI x5, jI x6, jI x7, jI x8, jN] [jI 1] (jG, M) Q) : J l z X (d + 2) mX3_listNext (0, 0) 163 [jR 19, jR 1, jI x2, jI x3, jI x4, jI x5, jI x6, jI x7, jI x8, jN] [] (jG, M) Q :=
  (J_iconst dX3_listNext_163 jc_1 (J_goto dX3_listNext_164 (tgt := 168) (by decide) k1))
theorem b_X3_listNext_167 {l : Launch} {z d : Nat} {X : jX} {M : Nat → Int → Int} {Q : Option jV → jM → Prop} {x2 : Int} {x3 : Int} {x4 : Int} {x5 : Int} {x6 : Int} {x7 : Int} {x8 : Int}   (k1 : J l z X (d + 2) mX3_listNext (0, 0) 168 [jR 19, jR 1, jI x2, jI x3, jI x4, jI x5, jI x6, jI x7, jI x8, jN] [jI 0] (jG, M) Q) : J l z X (d + 2) mX3_listNext (0, 0) 167 [jR 19, jR 1, jI x2, jI x3, jI x4, jI x5, jI x6, jI x7, jI x8, jN] [] (jG, M) Q :=
  (J_iconst dX3_listNext_167 jc_0 k1)
theorem b_X3_listNext_168 {l : Launch} {z d : Nat} {X : jX} {M : Nat → Int → Int} {Q : Option jV → jM → Prop} {x2 : Int} {x3 : Int} {x4 : Int} {x5 : Int} {x6 : Int} {x7 : Int} {x8 : Int} {t0 : Int}  (s1 : 0 ≤ x4) (s2 : x4 < 18) (s3 : jIn (x5 * 3)) (s4 : jIn ((x5 * 3) + x6)) (s5 : t0 ≠ 0 → jIn (x4 + 3)) (k1 : t0 = 0 → J l z X (d + 2) mX3_listNext (0, 0) 204 [jR 19, jR 1, jI x2, jI x3, jI x4, jI x5, jI x6, jI x7, jI x8, jI t0] [jI (-6), jI ((x5 * 3) + x6), jR (45 + x4.toNat)] (jG, M) Q) (k2 : t0 ≠ 0 → J l z X (d + 1) mX3_findAge (0, 0) 0 [jR 19, jI (x4 + 3), jI x8, jN, jN] [] (jG, M) (fun r μ => J l z X (d + 2) mX3_listNext (0, 0) 199 [jR 19, jR 1, jI x2, jI x3, jI x4, jI x5, jI x6, jI x7, jI x8, jI t0] (r.toList ++ [jI ((x5 * 3) + x6), jR (45 + x4.toNat)]) μ Q)) : J l z X (d + 2) mX3_listNext (0, 0) 168 [jR 19, jR 1, jI x2, jI x3, jI x4, jI x5, jI x6, jI x7, jI x8, jN] [jI t0] (jG, M) Q :=
  (J_istore dX3_listNext_168 (Nat.le_of_ble_eq_true rfl) (J_aload_n dX3_listNext_170 rfl (J_getR (k := 3) jcl_X3 dX3_listNext_171 wf_X3_23 g_19 (Nat.le_of_ble_eq_true rfl) rfl rfl (J_iload dX3_listNext_174 rfl (J_aald3 dX3_listNext_176 g_44 s1 s2 (gr_44 s1 s2).1 (J_iload dX3_listNext_177 rfl (J_iconst dX3_listNext_179 jc_3 (J_imul dX3_listNext_180 s3 (J_iload dX3_listNext_181 rfl (J_iadd dX3_listNext_183 s4 (J_iload dX3_listNext_184 rfl (J_if_eq dX3_listNext_186 (tgt := 202) (by decide) (fun c1 => (J_bipush dX3_listNext_202 jc_m6 jb_m6 (k1 c1))) (fun c1 => (J_aload_n dX3_listNext_189 rfl (J_iload dX3_listNext_190 rfl (J_iconst dX3_listNext_192 jc_3 (J_iadd dX3_listNext_193 (s5 c1) (J_iload dX3_listNext_194 rfl (J_callV (a1 := (0, 0)) (a2 := (0, 0)) (mm' := mX3_findAge) (S := [jI ((x5 * 3) + x6), jR (45 + x4.toNat)]) [jI (x4 + 3), jI x8] md_X3_findAge im_X3_findAge se_X3_findAge dX3_listNext_196 wm_X3_91 jcl_X3.1 rfl g_19 rfl rfl (Nat.le_of_ble_eq_true rfl) (Nat.le_of_ble_eq_true rfl) rfl (k2 c1))))))))))))))))))))
theorem b_X3_listNext_199 {l : Launch} {z d : Nat} {X : jX} {M : Nat → Int → Int} {Q : Option jV → jM → Prop} {x2 : Int} {x3 : Int} {x4 : Int} {x5 : Int} {x6 : Int} {x7 : Int} {x8 : Int} {x9 : Int} {r0 : Nat} {t1 : Int} {t2 : Int} (hr0 : jG[r0]? = some (0, 39, []))  (k1 : J l z X (d + 2) mX3_listNext (0, 0) 204 [jR 19, jR 1, jI x2, jI x3, jI x4, jI x5, jI x6, jI x7, jI x8, jI x9] [jI t2, jI t1, jR r0] (jG, M) Q) : J l z X (d + 2) mX3_listNext (0, 0) 199 [jR 19, jR 1, jI x2, jI x3, jI x4, jI x5, jI x6, jI x7, jI x8, jI x9] [jI t2, jI t1, jR r0] (jG, M) Q :=
  (J_goto dX3_listNext_199 (tgt := 204) (by decide) k1)
theorem b_X3_listNext_204 {l : Launch} {z d : Nat} {X : jX} {M : Nat → Int → Int} {Q : Option jV → jM → Prop} {x2 : Int} {x3 : Int} {x4 : Int} {x5 : Int} {x6 : Int} {x7 : Int} {x8 : Int} {x9 : Int} {r0 : Nat} {t1 : Int} {t2 : Int} (hr0 : jG[r0]? = some (0, 39, [])) (s1 : 0 ≤ t1) (s2 : t1 < 39) (s3 : jIn (x6 + 1)) (k1 : J l z X (d + 2) mX3_listNext (0, 0) 66 [jR 19, jR 1, jI x2, jI x3, jI x4, jI x5, jI (x6 + 1), jN, jN, jN] [] (jG, (jupd M r0 t1 t2)) Q) : J l z X (d + 2) mX3_listNext (0, 0) 204 [jR 19, jR 1, jI x2, jI x3, jI x4, jI x5, jI x6, jI x7, jI x8, jI x9] [jI t2, jI t1, jR r0] (jG, M) Q :=
  (J_iast dX3_listNext_204 hr0 s1 s2 (J_iinc dX3_listNext_205 rfl jc_1 s3 (J_goto dX3_listNext_208 (tgt := 66) (by decide) (J_weak [jR 19, jR 1, jI x2, jI x3, jI x4, jI x5, jI (x6 + 1), jN, jN, jN] ⟨Or.inr rfl, Or.inr rfl, Or.inr rfl, Or.inr rfl, Or.inr rfl, Or.inr rfl, Or.inr rfl, Or.inl rfl, Or.inl rfl, Or.inl rfl, trivial⟩ k1))))
theorem b_X3_lastsRest_0 {l : Launch} {z d : Nat} {X : jX} {M : Nat → Int → Int} {Q : Option jV → jM → Prop} {x2 : Int} {x3 : Int} {x4 : Int}  (s1 : hasB (M 1 4) x2 = true → 0 ≤ x2) (s2 : hasB (M 1 4) x2 = true → x2 < 6) (s3 : hasB (M 1 4) x2 = true → jIn (x4 * (M 3 x2))) (s4 : hasB (M 1 4) x2 = true → jIn (x3 + (x4 * (M 3 x2)))) (k1 : hasB (M 1 4) x2 = true → (M 19 9) < (min 99 (x3 + (x4 * (M 3 x2)))) → Q (some (jI 0)) (jG, M)) (k2 : hasB (M 1 4) x2 = true → (min 99 (x3 + (x4 * (M 3 x2)))) ≤ (M 19 9) → Q (some (jI 1)) (jG, M)) (k3 : hasB (M 1 4) x2 = false → Q (some (jI 1)) (jG, M)) : J l z X (d + 1) mX3_lastsRest (0, 0) 0 [jR 19, jR 1, jI x2, jI x3, jI x4] [] (jG, M) Q :=
  (J_aload_n dX3_lastsRest_0 rfl (J_iload_n dX3_lastsRest_1 rfl (J_callV (a1 := (0, 0)) (a2 := (0, 0)) (mm' := mX1_has) (S := []) [jI x2] md_X1_has im_X1_has se_X1_has dX3_lastsRest_2 wm_X3_70 jcl_X1.1 rfl g_1 rfl rfl (Nat.le_of_ble_eq_true rfl) (Nat.le_of_ble_eq_true rfl) rfl (c_X1_has hi_1  (fun c1 => (J_if_eq dX3_lastsRest_5 (tgt := 31) (by decide) (fun c => absurd c (by decide)) (fun _ => (J_bipush dX3_lastsRest_8 jc_99 jb_99 (J_iload_n dX3_lastsRest_10 rfl (J_iload dX3_lastsRest_11 rfl (J_aload_n dX3_lastsRest_13 rfl (J_getRN (k := 1) jcl_X1 dX3_lastsRest_14 wf_X3_94 g_1 (Nat.le_of_ble_eq_true rfl) rfl rfl (J_iload_n dX3_lastsRest_17 rfl (J_iald dX3_lastsRest_18 g_3 (s1 c1) (s2 c1) (J_imul dX3_lastsRest_19 (s3 c1) (J_iadd dX3_lastsRest_20 (s4 c1) (J_mmin dX3_lastsRest_21 wm_X3_35 is_J9_min_7cf53 wi_J9 mc_J9_min_7cf53 (Nat.succ_le_succ (Nat.zero_le _)) (Nat.le_of_ble_eq_true rfl) (J_aload_n dX3_lastsRest_24 rfl (J_getI (k := 9) (kz := 9) jcl_X3 dX3_lastsRest_25 wf_X3_51 g_19 (Nat.le_of_ble_eq_true rfl) rfl rfl (J_icmp_gt dX3_lastsRest_28 (tgt := 35) (by decide) (fun c2 => (J_iconst dX3_lastsRest_35 jc_0 (J_zret dX3_lastsRest_36 rfl (Or.inl rfl) (k1 c1 c2)))) (fun c2 => (J_iconst dX3_lastsRest_31 jc_1 (J_goto dX3_lastsRest_32 (tgt := 36) (by decide) (J_zret dX3_lastsRest_36 rfl (Or.inr rfl) (k2 c1 c2))))))))))))))))))))) (fun c1 => (J_if_eq dX3_lastsRest_5 (tgt := 31) (by decide) (fun _ => (J_iconst dX3_lastsRest_31 jc_1 (J_goto dX3_lastsRest_32 (tgt := 36) (by decide) (J_zret dX3_lastsRest_36 rfl (Or.inr rfl) (k3 c1))))) (fun c => absurd c (by decide))))))))
theorem b_X3_findAge_0 {l : Launch} {z d : Nat} {X : jX} {M : Nat → Int → Int} {Q : Option jV → jM → Prop} {x1 : Int} {x2 : Int}  (s1 : 0 ≤ x1 → x1 < 21 → 0 ≤ x1) (s2 : 0 ≤ x1 → x1 < 21 → x1 < 21) (k1 : x1 < 0 → Q (some (jI (-6))) (jG, M)) (k2 : 0 ≤ x1 → x1 < 21 → J l z X d mX3_findAge (0, 0) 26 [jR 19, jI x1, jI x2, jI (M 43 x1), jI 0] [] (jG, M) Q) (k3 : 0 ≤ x1 → 21 ≤ x1 → Q (some (jI (-6))) (jG, M)) : J l z X d mX3_findAge (0, 0) 0 [jR 19, jI x1, jI x2, jN, jN] [] (jG, M) Q :=
  (J_iload_n dX3_findAge_0 rfl (J_if_lt dX3_findAge_1 (tgt := 13) (by decide) (fun c1 => (J_bipush dX3_findAge_13 jc_m6 jb_m6 (J_iret dX3_findAge_15 rfl (k1 c1)))) (fun c1 => (J_iload_n dX3_findAge_4 rfl (J_aload_n dX3_findAge_5 rfl (J_getR (k := 1) jcl_X3 dX3_findAge_6 wf_X3_17 g_19 (Nat.le_of_ble_eq_true rfl) rfl rfl (J_alen3 dX3_findAge_9 g_21 (Nat.le_of_ble_eq_true rfl) (J_icmp_lt dX3_findAge_10 (tgt := 16) (by decide) (fun c2 => (J_aload_n dX3_findAge_16 rfl (J_getR (k := 2) jcl_X3 dX3_findAge_17 wf_X3_20 g_19 (Nat.le_of_ble_eq_true rfl) rfl rfl (J_iload_n dX3_findAge_20 rfl (J_iald dX3_findAge_21 g_43 (s1 c1 c2) (s2 c1 c2) (J_istore_n dX3_findAge_22 (Nat.le_of_ble_eq_true rfl) (J_iconst dX3_findAge_23 jc_0 (J_istore dX3_findAge_24 (Nat.le_of_ble_eq_true rfl) (k2 c1 c2))))))))) (fun c2 => (J_bipush dX3_findAge_13 jc_m6 jb_m6 (J_iret dX3_findAge_15 rfl (k3 c1 c2))))))))))))
theorem b_X3_findAge_26 {l : Launch} {z d : Nat} {X : jX} {M : Nat → Int → Int} {Q : Option jV → jM → Prop} {x1 : Int} {x2 : Int} {x3 : Int} {x4 : Int}  (s1 : x4 < x3 → x4 < 13 → 0 ≤ x1) (s2 : x4 < x3 → x4 < 13 → x1 < 21) (s3 : x4 < x3 → x4 < 13 → 0 ≤ x4) (s4 : x4 < x3 → x4 < 13 → x4 < 13) (s5 : x4 < x3 → x4 < 13 → (M (22 + x1.toNat) x4) ≠ x2 → jIn (x4 + 1)) (k1 : x3 ≤ x4 → J l z X d mX3_findAge (0, 0) 61 [jR 19, jI x1, jI x2, jI x3, jI x4] [] (jG, M) Q) (k2 : x4 < x3 → 13 ≤ x4 → J l z X d mX3_findAge (0, 0) 61 [jR 19, jI x1, jI x2, jI x3, jI x4] [] (jG, M) Q) (k3 : x4 < x3 → x4 < 13 → (M (22 + x1.toNat) x4) ≠ x2 → J l z X d mX3_findAge (0, 0) 26 [jR 19, jI x1, jI x2, jI x3, jI (x4 + 1)] [] (jG, M) Q) (k4 : x4 < x3 → x4 < 13 → (M (22 + x1.toNat) x4) = x2 → Q (some (jI x4)) (jG, M)) : J l z X d mX3_findAge (0, 0) 26 [jR 19, jI x1, jI x2, jI x3, jI x4] [] (jG, M) Q :=
  (J_iload dX3_findAge_26 rfl (J_iload_n dX3_findAge_28 rfl (J_icmp_ge dX3_findAge_29 (tgt := 61) (by decide) (fun c1 => (k1 c1)) (fun c1 => (J_iload dX3_findAge_32 rfl (J_bipush dX3_findAge_34 jc_13 jb_13 (J_icmp_ge dX3_findAge_36 (tgt := 61) (by decide) (fun c2 => (k2 c1 c2)) (fun c2 => (J_aload_n dX3_findAge_39 rfl (J_getR (k := 1) jcl_X3 dX3_findAge_40 wf_X3_17 g_19 (Nat.le_of_ble_eq_true rfl) rfl rfl (J_iload_n dX3_findAge_43 rfl (J_aald3 dX3_findAge_44 g_21 (s1 c1 c2) (s2 c1 c2) (gr_21 (s1 c1 c2) (s2 c1 c2)).1 (J_iload dX3_findAge_45 rfl (J_iald dX3_findAge_47 (gr_21 (s1 c1 c2) (s2 c1 c2)).2 (s3 c1 c2) (s4 c1 c2) (J_iload_n dX3_findAge_48 rfl (J_icmp_ne dX3_findAge_49 (tgt := 55) (by decide) (fun c3 => (J_iinc dX3_findAge_55 rfl jc_1 (s5 c1 c2 c3) (J_goto dX3_findAge_58 (tgt := 26) (by decide) (k3 c1 c2 c3)))) (fun c3 => (J_iload dX3_findAge_52 rfl (J_iret dX3_findAge_54 rfl (k4 c1 c2 c3))))))))))))))))))))
theorem b_X3_findAge_61 {l : Launch} {z d : Nat} {X : jX} {M : Nat → Int → Int} {Q : Option jV → jM → Prop} {x1 : Int} {x2 : Int} {x3 : Int} {x4 : Int}  (s1 : 0 ≤ x3 → x3 < 13 → 0 ≤ x1) (s2 : 0 ≤ x3 → x3 < 13 → x1 < 21) (s3 : 0 ≤ x3 → x3 < 13 → 0 ≤ x3) (s4 : 0 ≤ x3 → x3 < 13 → x3 < 13) (s5 : 0 ≤ x3 → x3 < 13 → jIn (((jupd M (22 + x1.toNat) x3 x2) 43 x1) + 1)) (k1 : x3 < 0 → Q (some (jI (-6))) (jG, M)) (k2 : 0 ≤ x3 → x3 < 13 → Q (some (jI x3)) (jG, (jupd (jupd M (22 + x1.toNat) x3 x2) 43 x1 (((jupd M (22 + x1.toNat) x3 x2) 43 x1) + 1)))) (k3 : 0 ≤ x3 → 13 ≤ x3 → Q (some (jI (-6))) (jG, M)) : J l z X d mX3_findAge (0, 0) 61 [jR 19, jI x1, jI x2, jI x3, jI x4] [] (jG, M) Q :=
  (J_iload_n dX3_findAge_61 rfl (J_if_lt dX3_findAge_62 (tgt := 71) (by decide) (fun c1 => (J_bipush dX3_findAge_71 jc_m6 jb_m6 (J_iret dX3_findAge_73 rfl (k1 c1)))) (fun c1 => (J_iload_n dX3_findAge_65 rfl (J_bipush dX3_findAge_66 jc_13 jb_13 (J_icmp_lt dX3_findAge_68 (tgt := 74) (by decide) (fun c2 => (J_aload_n dX3_findAge_74 rfl (J_getR (k := 1) jcl_X3 dX3_findAge_75 wf_X3_17 g_19 (Nat.le_of_ble_eq_true rfl) rfl rfl (J_iload_n dX3_findAge_78 rfl (J_aald3 dX3_findAge_79 g_21 (s1 c1 c2) (s2 c1 c2) (gr_21 (s1 c1 c2) (s2 c1 c2)).1 (J_iload_n dX3_findAge_80 rfl (J_iload_n dX3_findAge_81 rfl (J_iast dX3_findAge_82 (gr_21 (s1 c1 c2) (s2 c1 c2)).2 (s3 c1 c2) (s4 c1 c2) (J_aload_n dX3_findAge_83 rfl (J_getR (k := 2) jcl_X3 dX3_findAge_84 wf_X3_20 g_19 (Nat.le_of_ble_eq_true rfl) rfl rfl (J_iload_n dX3_findAge_87 rfl (J_dup2_RI dX3_findAge_88 (J_iald dX3_findAge_89 g_43 (s1 c1 c2) (s2 c1 c2) (J_iconst dX3_findAge_90 jc_1 (J_iadd dX3_findAge_91 (s5 c1 c2) (J_iast dX3_findAge_92 g_43 (s1 c1 c2) (s2 c1 c2) (J_iload_n dX3_findAge_93 rfl (J_iret dX3_findAge_94 rfl (k2 c1 c2))))))))))))))))))) (fun c2 => (J_bipush dX3_findAge_71 jc_m6 jb_m6 (J_iret dX3_findAge_73 rfl (k3 c1 c2))))))))))
theorem b_X3_countOf_0 {l : Launch} {z d : Nat} {X : jX} {M : Nat → Int → Int} {Q : Option jV → jM → Prop} {x1 : Int} {x2 : Int}  (s1 : jIn (x1 * 3)) (s2 : jIn ((x1 * 3) + x2)) (s3 : 0 ≤ ((x1 * 3) + x2) → ((x1 * 3) + x2) < 21 → 0 ≤ ((x1 * 3) + x2)) (s4 : 0 ≤ ((x1 * 3) + x2) → ((x1 * 3) + x2) < 21 → ((x1 * 3) + x2) < 21) (k1 : ((x1 * 3) + x2) < 0 → Q (some (jI 0)) (jG, M)) (k2 : 0 ≤ ((x1 * 3) + x2) → 21 ≤ ((x1 * 3) + x2) → Q (some (jI 0)) (jG, M)) (k3 : 0 ≤ ((x1 * 3) + x2) → ((x1 * 3) + x2) < 21 → Q (some (jI (M 43 ((x1 * 3) + x2)))) (jG, M)) : J l z X d mX3_countOf (0, 0) 0 [jR 19, jI x1, jI x2, jN] [] (jG, M) Q :=
  (J_iload_n dX3_countOf_0 rfl (J_iconst dX3_countOf_1 jc_3 (J_imul dX3_countOf_2 s1 (J_iload_n dX3_countOf_3 rfl (J_iadd dX3_countOf_4 s2 (J_istore_n dX3_countOf_5 (Nat.le_of_ble_eq_true rfl) (J_iload_n dX3_countOf_6 rfl (J_if_lt dX3_countOf_7 (tgt := 28) (by decide) (fun c1 => (J_iconst dX3_countOf_28 jc_0 (J_iret dX3_countOf_29 rfl (k1 c1)))) (fun c1 => (J_iload_n dX3_countOf_10 rfl (J_aload_n dX3_countOf_11 rfl (J_getR (k := 2) jcl_X3 dX3_countOf_12 wf_X3_20 g_19 (Nat.le_of_ble_eq_true rfl) rfl rfl (J_alen0 dX3_countOf_15 g_43 (Nat.le_of_ble_eq_true rfl) (J_icmp_ge dX3_countOf_16 (tgt := 28) (by decide) (fun c2 => (J_iconst dX3_countOf_28 jc_0 (J_iret dX3_countOf_29 rfl (k2 c1 c2)))) (fun c2 => (J_aload_n dX3_countOf_19 rfl (J_getR (k := 2) jcl_X3 dX3_countOf_20 wf_X3_20 g_19 (Nat.le_of_ble_eq_true rfl) rfl rfl (J_iload_n dX3_countOf_23 rfl (J_iald dX3_countOf_24 g_43 (s3 c1 c2) (s4 c1 c2) (J_goto dX3_countOf_25 (tgt := 29) (by decide) (J_iret dX3_countOf_29 rfl (k3 c1 c2))))))))))))))))))))))
theorem b_X3_countDay_0 {l : Launch} {z d : Nat} {X : jX} {M : Nat → Int → Int} {Q : Option jV → jM → Prop} {x1 : Int}  (s1 : 0 ≤ x1 → x1 ≤ 6 → 0 ≤ x1) (s2 : 0 ≤ x1 → x1 ≤ 6 → x1 < 7) (k1 : x1 < 0 → J l z X (d + 3) mX3_countDay (0, 0) 19 [jR 19, jI x1, jN, jN, jN, jN] [] (jG, M) Q) (k2 : 0 ≤ x1 → 6 < x1 → J l z X (d + 3) mX3_countDay (0, 0) 19 [jR 19, jI x1, jN, jN, jN, jN] [] (jG, M) Q) (k3 : 0 ≤ x1 → x1 ≤ 6 → J l z X (d + 3) mX3_countDay (0, 0) 22 [jR 19, jI x1, jN, jN, jN, jN] [jI (M 64 x1)] (jG, M) Q) : J l z X (d + 3) mX3_countDay (0, 0) 0 [jR 19, jI x1, jN, jN, jN, jN] [] (jG, M) Q :=
  (J_iload_n dX3_countDay_0 rfl (J_if_lt dX3_countDay_1 (tgt := 19) (by decide) (fun c1 => (k1 c1)) (fun c1 => (J_iload_n dX3_countDay_4 rfl (J_bipush dX3_countDay_5 jc_6 jb_6 (J_icmp_gt dX3_countDay_7 (tgt := 19) (by decide) (fun c2 => (k2 c1 c2)) (fun c2 => (J_aload_n dX3_countDay_10 rfl (J_getR (k := 5) jcl_X3 dX3_countDay_11 wf_X3_29 g_19 (Nat.le_of_ble_eq_true rfl) rfl rfl (J_iload_n dX3_countDay_14 rfl (J_iald dX3_countDay_15 g_64 (s1 c1 c2) (s2 c1 c2) (J_goto dX3_countDay_16 (tgt := 22) (by decide) (k3 c1 c2)))))))))))))
theorem b_X3_countDay_19 {l : Launch} {z d : Nat} {X : jX} {M : Nat → Int → Int} {Q : Option jV → jM → Prop} {x1 : Int}   (k1 : J l z X (d + 3) mX3_countDay (0, 0) 22 [jR 19, jI x1, jN, jN, jN, jN] [jI 2556] (jG, M) Q) : J l z X (d + 3) mX3_countDay (0, 0) 19 [jR 19, jI x1, jN, jN, jN, jN] [] (jG, M) Q :=
  (J_sipush dX3_countDay_19 jc_2556 jsp_2556 k1)
theorem b_X3_countDay_22 {l : Launch} {z d : Nat} {X : jX} {M : Nat → Int → Int} {Q : Option jV → jM → Prop} {x1 : Int} {t0 : Int}   (k1 : J l z X (d + 3) mX3_countDay (0, 0) 25 [jR 19, jI x1, jI t0, jI 0, jN, jN] [] (jG, M) Q) : J l z X (d + 3) mX3_countDay (0, 0) 22 [jR 19, jI x1, jN, jN, jN, jN] [jI t0] (jG, M) Q :=
  (J_istore_n dX3_countDay_22 (Nat.le_of_ble_eq_true rfl) (J_iconst dX3_countDay_23 jc_0 (J_istore_n dX3_countDay_24 (Nat.le_of_ble_eq_true rfl) k1)))
theorem b_X3_countDay_25 {l : Launch} {z d : Nat} {X : jX} {M : Nat → Int → Int} {Q : Option jV → jM → Prop} {x1 : Int} {x2 : Int} {x3 : Int}   (k1 : J l z X (d + 2) mX3_countOf (0, 0) 0 [jR 19, jI x1, jI 0, jN] [] (jG, M) (fun r μ => J l z X (d + 3) mX3_countDay (0, 0) 32 [jR 19, jI x1, jI x2, jI x3, jN, jN] (r.toList ++ [jI x3]) μ Q)) : J l z X (d + 3) mX3_countDay (0, 0) 25 [jR 19, jI x1, jI x2, jI x3, jN, jN] [] (jG, M) Q :=
  (J_iload_n dX3_countDay_25 rfl (J_aload_n dX3_countDay_26 rfl (J_iload_n dX3_countDay_27 rfl (J_iconst dX3_countDay_28 jc_0 (J_callV (a1 := (0, 0)) (a2 := (0, 0)) (mm' := mX3_countOf) (S := [jI x3]) [jI x1, jI 0] md_X3_countOf im_X3_countOf se_X3_countOf dX3_countDay_29 wm_X3_97 jcl_X3.1 rfl g_19 rfl rfl (Nat.le_of_ble_eq_true rfl) (Nat.le_of_ble_eq_true rfl) rfl k1)))))
theorem b_X3_countDay_32 {l : Launch} {z d : Nat} {X : jX} {M : Nat → Int → Int} {Q : Option jV → jM → Prop} {x1 : Int} {x2 : Int} {x3 : Int} {t0 : Int} {t1 : Int}   (k1 : t1 ≤ t0 → Q none (jG, M)) (k2 : t0 < t1 → J l z X (d + 3) mX3_countDay (0, 0) 38 [jR 19, jI x1, jI x2, jI x3, jI 0, jN] [] (jG, M) Q) : J l z X (d + 3) mX3_countDay (0, 0) 32 [jR 19, jI x1, jI x2, jI x3, jN, jN] [jI t1, jI t0] (jG, M) Q :=
  (J_icmp_ge dX3_countDay_32 (tgt := 111) (by decide) (fun c1 => (J_vret dX3_countDay_111 rfl (k1 c1))) (fun c1 => (J_iconst dX3_countDay_35 jc_0 (J_istore dX3_countDay_36 (Nat.le_of_ble_eq_true rfl) (k2 c1)))))
theorem b_X3_countDay_38 {l : Launch} {z d : Nat} {X : jX} {M : Nat → Int → Int} {Q : Option jV → jM → Prop} {x1 : Int} {x2 : Int} {x3 : Int} {x4 : Int}   (k1 : J l z X (d + 2) mX3_countOf (0, 0) 0 [jR 19, jI x1, jI 1, jN] [] (jG, M) (fun r μ => J l z X (d + 3) mX3_countDay (0, 0) 46 [jR 19, jI x1, jI x2, jI x3, jI x4, jN] (r.toList ++ [jI x4]) μ Q)) : J l z X (d + 3) mX3_countDay (0, 0) 38 [jR 19, jI x1, jI x2, jI x3, jI x4, jN] [] (jG, M) Q :=
  (J_iload dX3_countDay_38 rfl (J_aload_n dX3_countDay_40 rfl (J_iload_n dX3_countDay_41 rfl (J_iconst dX3_countDay_42 jc_1 (J_callV (a1 := (0, 0)) (a2 := (0, 0)) (mm' := mX3_countOf) (S := [jI x4]) [jI x1, jI 1] md_X3_countOf im_X3_countOf se_X3_countOf dX3_countDay_43 wm_X3_97 jcl_X3.1 rfl g_19 rfl rfl (Nat.le_of_ble_eq_true rfl) (Nat.le_of_ble_eq_true rfl) rfl k1)))))
theorem b_X3_countDay_46 {l : Launch} {z d : Nat} {X : jX} {M : Nat → Int → Int} {Q : Option jV → jM → Prop} {x1 : Int} {x2 : Int} {x3 : Int} {x4 : Int} {t0 : Int} {t1 : Int}  (s1 : t1 ≤ t0 → jIn (x3 + 1)) (k1 : t1 ≤ t0 → J l z X (d + 3) mX3_countDay (0, 0) 25 [jR 19, jI x1, jI x2, jI (x3 + 1), jN, jN] [] (jG, M) Q) (k2 : t0 < t1 → J l z X (d + 3) mX3_countDay (0, 0) 52 [jR 19, jI x1, jI x2, jI x3, jI x4, jI 0] [] (jG, M) Q) : J l z X (d + 3) mX3_countDay (0, 0) 46 [jR 19, jI x1, jI x2, jI x3, jI x4, jN] [jI t1, jI t0] (jG, M) Q :=
  (J_icmp_ge dX3_countDay_46 (tgt := 105) (by decide) (fun c1 => (J_iinc dX3_countDay_105 rfl jc_1 (s1 c1) (J_goto dX3_countDay_108 (tgt := 25) (by decide) (J_weak [jR 19, jI x1, jI x2, jI (x3 + 1), jN, jN] ⟨Or.inr rfl, Or.inr rfl, Or.inr rfl, Or.inr rfl, Or.inl rfl, Or.inr rfl, trivial⟩ (k1 c1))))) (fun c1 => (J_iconst dX3_countDay_49 jc_0 (J_istore dX3_countDay_50 (Nat.le_of_ble_eq_true rfl) (k2 c1)))))
theorem b_X3_countDay_52 {l : Launch} {z d : Nat} {X : jX} {M : Nat → Int → Int} {Q : Option jV → jM → Prop} {x1 : Int} {x2 : Int} {x3 : Int} {x4 : Int} {x5 : Int}   (k1 : J l z X (d + 2) mX3_countOf (0, 0) 0 [jR 19, jI x1, jI 2, jN] [] (jG, M) (fun r μ => J l z X (d + 3) mX3_countDay (0, 0) 60 [jR 19, jI x1, jI x2, jI x3, jI x4, jI x5] (r.toList ++ [jI x5]) μ Q)) : J l z X (d + 3) mX3_countDay (0, 0) 52 [jR 19, jI x1, jI x2, jI x3, jI x4, jI x5] [] (jG, M) Q :=
  (J_iload dX3_countDay_52 rfl (J_aload_n dX3_countDay_54 rfl (J_iload_n dX3_countDay_55 rfl (J_iconst dX3_countDay_56 jc_2 (J_callV (a1 := (0, 0)) (a2 := (0, 0)) (mm' := mX3_countOf) (S := [jI x5]) [jI x1, jI 2] md_X3_countOf im_X3_countOf se_X3_countOf dX3_countDay_57 wm_X3_97 jcl_X3.1 rfl g_19 rfl rfl (Nat.le_of_ble_eq_true rfl) (Nat.le_of_ble_eq_true rfl) rfl k1)))))
theorem b_X3_countDay_60 {l : Launch} {z d : Nat} {X : jX} {M : Nat → Int → Int} {Q : Option jV → jM → Prop} {x1 : Int} {x2 : Int} {x3 : Int} {x4 : Int} {x5 : Int} {t0 : Int} {t1 : Int}  (s1 : t1 ≤ t0 → jIn (x4 + 1)) (k1 : t1 ≤ t0 → J l z X (d + 3) mX3_countDay (0, 0) 38 [jR 19, jI x1, jI x2, jI x3, jI (x4 + 1), jN] [] (jG, M) Q) (k2 : t0 < t1 → x2 < 0 → J l z X (d + 3) mX3_countDay (0, 0) 90 [jR 19, jI x1, jI x2, jI x3, jI x4, jI x5] [] (jG, M) Q) (k3 : t0 < t1 → 0 ≤ x2 → 2556 ≤ x2 → J l z X (d + 3) mX3_countDay (0, 0) 90 [jR 19, jI x1, jI x2, jI x3, jI x4, jI x5] [] (jG, M) Q) (k4 : t0 < t1 → 0 ≤ x2 → x2 < 2556 → J l z X (d + 2) mX3_bestMeals (0, 0) 0 [jR 19, jI x1, jI x3, jI x4, jI x5, jN, jN, jN, jN, jN, jN, jN, jN] [] (jG, M) (fun r μ => J l z X (d + 3) mX3_countDay (0, 0) 89 [jR 19, jI x1, jI x2, jI x3, jI x4, jI x5] (r.toList ++ [jI x2, jR 63]) μ Q)) : J l z X (d + 3) mX3_countDay (0, 0) 60 [jR 19, jI x1, jI x2, jI x3, jI x4, jI x5] [jI t1, jI t0] (jG, M) Q :=
  (J_icmp_ge dX3_countDay_60 (tgt := 99) (by decide) (fun c1 => (J_iinc dX3_countDay_99 rfl jc_1 (s1 c1) (J_goto dX3_countDay_102 (tgt := 38) (by decide) (J_weak [jR 19, jI x1, jI x2, jI x3, jI (x4 + 1), jN] ⟨Or.inr rfl, Or.inr rfl, Or.inr rfl, Or.inr rfl, Or.inr rfl, Or.inl rfl, trivial⟩ (k1 c1))))) (fun c1 => (J_iload_n dX3_countDay_63 rfl (J_if_lt dX3_countDay_64 (tgt := 90) (by decide) (fun c2 => (k2 c1 c2)) (fun c2 => (J_iload_n dX3_countDay_67 rfl (J_sipush dX3_countDay_68 jc_2556 jsp_2556 (J_icmp_ge dX3_countDay_71 (tgt := 90) (by decide) (fun c3 => (k3 c1 c2 c3)) (fun c3 => (J_aload_n dX3_countDay_74 rfl (J_getR (k := 4) jcl_X3 dX3_countDay_75 wf_X3_26 g_19 (Nat.le_of_ble_eq_true rfl) rfl rfl (J_iload_n dX3_countDay_78 rfl (J_aload_n dX3_countDay_79 rfl (J_iload_n dX3_countDay_80 rfl (J_iload_n dX3_countDay_81 rfl (J_iload dX3_countDay_82 rfl (J_iload dX3_countDay_84 rfl (J_callV (a1 := (0, 0)) (a2 := (0, 0)) (mm' := mX3_bestMeals) (S := [jI x2, jR 63]) [jI x1, jI x3, jI x4, jI x5] md_X3_bestMeals im_X3_bestMeals se_X3_bestMeals dX3_countDay_86 wm_X3_100 jcl_X3.1 rfl g_19 rfl rfl (Nat.le_of_ble_eq_true rfl) (Nat.le_of_ble_eq_true rfl) rfl (k4 c1 c2 c3)))))))))))))))))))
theorem b_X3_countDay_89 {l : Launch} {z d : Nat} {X : jX} {M : Nat → Int → Int} {Q : Option jV → jM → Prop} {x1 : Int} {x2 : Int} {x3 : Int} {x4 : Int} {x5 : Int} {t1 : Int} {t2 : Int}  (s1 : 0 ≤ t1) (s2 : t1 < 2556) (k1 : J l z X (d + 3) mX3_countDay (0, 0) 90 [jR 19, jI x1, jI x2, jI x3, jI x4, jI x5] [] (jG, (jupd M 63 t1 t2)) Q) : J l z X (d + 3) mX3_countDay (0, 0) 89 [jR 19, jI x1, jI x2, jI x3, jI x4, jI x5] [jI t2, jI t1, jR 63] (jG, M) Q :=
  (J_iast dX3_countDay_89 g_63 s1 s2 k1)
theorem b_X3_countDay_90 {l : Launch} {z d : Nat} {X : jX} {M : Nat → Int → Int} {Q : Option jV → jM → Prop} {x1 : Int} {x2 : Int} {x3 : Int} {x4 : Int} {x5 : Int}  (s1 : jIn (x2 + 1)) (s2 : jIn (x5 + 1)) (k1 : J l z X (d + 3) mX3_countDay (0, 0) 52 [jR 19, jI x1, jI (x2 + 1), jI x3, jI x4, jI (x5 + 1)] [] (jG, M) Q) : J l z X (d + 3) mX3_countDay (0, 0) 90 [jR 19, jI x1, jI x2, jI x3, jI x4, jI x5] [] (jG, M) Q :=
  (J_iinc dX3_countDay_90 rfl jc_1 s1 (J_iinc dX3_countDay_93 rfl jc_1 s2 (J_goto dX3_countDay_96 (tgt := 52) (by decide) k1)))
theorem b_X3_bestMeals_0 {l : Launch} {z d : Nat} {X : jX} {M : Nat → Int → Int} {Q : Option jV → jM → Prop} {x1 : Int} {x2 : Int} {x3 : Int} {x4 : Int}   (k1 : J l z X (d + 2) mX3_bestMeals (0, 0) 14 [jR 19, jI x1, jI x2, jI x3, jI x4, jI 1000, jI 0, jN, jN, jN, jN, jN, jN] [] (jG, (jupd M 19 10 (-6))) Q) : J l z X (d + 2) mX3_bestMeals (0, 0) 0 [jR 19, jI x1, jI x2, jI x3, jI x4, jN, jN, jN, jN, jN, jN, jN, jN] [] (jG, M) Q :=
  (J_sipush dX3_bestMeals_0 jc_1000 jsp_1000 (J_istore dX3_bestMeals_3 (Nat.le_of_ble_eq_true rfl) (J_aload_n dX3_bestMeals_5 rfl (J_bipush dX3_bestMeals_6 jc_m6 jb_m6 (J_putI (k := 10) (kz := 10) jcl_X3 dX3_bestMeals_8 wf_X3_103 g_19 (Nat.le_of_ble_eq_true rfl) rfl rfl rfl (J_iconst dX3_bestMeals_11 jc_0 (J_istore dX3_bestMeals_12 (Nat.le_of_ble_eq_true rfl) k1)))))))
theorem b_X3_bestMeals_14 {l : Launch} {z d : Nat} {X : jX} {M : Nat → Int → Int} {Q : Option jV → jM → Prop} {x1 : Int} {x2 : Int} {x3 : Int} {x4 : Int} {x5 : Int} {x6 : Int}   (k1 : 3 ≤ x6 → Q (some (jI x5)) (jG, M)) (k2 : x6 < 3 → (M 19 8) < x6 → Q (some (jI x5)) (jG, M)) (k3 : x6 < 3 → x6 ≤ (M 19 8) → J l z X (d + 1) mX3_next (0, 0) 0 [jR 19, jI x1, jI 0, jI x2, jI x6, jN, jN] [] (jG, M) (fun r μ => J l z X (d + 2) mX3_bestMeals (0, 0) 38 [jR 19, jI x1, jI x2, jI x3, jI x4, jI x5, jI x6, jN, jN, jN, jN, jN, jN] (r.toList ++ []) μ Q)) : J l z X (d + 2) mX3_bestMeals (0, 0) 14 [jR 19, jI x1, jI x2, jI x3, jI x4, jI x5, jI x6, jN, jN, jN, jN, jN, jN] [] (jG, M) Q :=
  (J_iload dX3_bestMeals_14 rfl (J_iconst dX3_bestMeals_16 jc_3 (J_icmp_ge dX3_bestMeals_17 (tgt := 198) (by decide) (fun c1 => (J_iload dX3_bestMeals_198 rfl (J_iret dX3_bestMeals_200 rfl (k1 c1)))) (fun c1 => (J_iload dX3_bestMeals_20 rfl (J_aload_n dX3_bestMeals_22 rfl (J_getI (k := 8) (kz := 8) jcl_X3 dX3_bestMeals_23 wf_X3_48 g_19 (Nat.le_of_ble_eq_true rfl) rfl rfl (J_icmp_gt dX3_bestMeals_26 (tgt := 198) (by decide) (fun c2 => (J_iload dX3_bestMeals_198 rfl (J_iret dX3_bestMeals_200 rfl (k2 c1 c2)))) (fun c2 => (J_aload_n dX3_bestMeals_29 rfl (J_iload_n dX3_bestMeals_30 rfl (J_iconst dX3_bestMeals_31 jc_0 (J_iload_n dX3_bestMeals_32 rfl (J_iload dX3_bestMeals_33 rfl (J_callV (a1 := (0, 0)) (a2 := (0, 0)) (mm' := mX3_next) (S := []) [jI x1, jI 0, jI x2, jI x6] md_X3_next im_X3_next se_X3_next dX3_bestMeals_35 wm_X3_106 jcl_X3.1 rfl g_19 rfl rfl (Nat.le_of_ble_eq_true rfl) (Nat.le_of_ble_eq_true rfl) rfl (k3 c1 c2))))))))))))))))
theorem b_X3_bestMeals_38 {l : Launch} {z d : Nat} {X : jX} {M : Nat → Int → Int} {Q : Option jV → jM → Prop} {x1 : Int} {x2 : Int} {x3 : Int} {x4 : Int} {x5 : Int} {x6 : Int} {t0 : Int}   (k1 : J l z X (d + 2) mX3_bestMeals (0, 0) 43 [jR 19, jI x1, jI x2, jI x3, jI x4, jI x5, jI x6, jI t0, jI 0, jN, jN, jN, jN] [] (jG, M) Q) : J l z X (d + 2) mX3_bestMeals (0, 0) 38 [jR 19, jI x1, jI x2, jI x3, jI x4, jI x5, jI x6, jN, jN, jN, jN, jN, jN] [jI t0] (jG, M) Q :=
  (J_istore dX3_bestMeals_38 (Nat.le_of_ble_eq_true rfl) (J_iconst dX3_bestMeals_40 jc_0 (J_istore dX3_bestMeals_41 (Nat.le_of_ble_eq_true rfl) k1)))
theorem b_X3_bestMeals_43 {l : Launch} {z d : Nat} {X : jX} {M : Nat → Int → Int} {Q : Option jV → jM → Prop} {x1 : Int} {x2 : Int} {x3 : Int} {x4 : Int} {x5 : Int} {x6 : Int} {x7 : Int} {x8 : Int}  (s1 : 0 ≤ x7 → x8 < 3 → jIn (x6 + x8)) (k1 : x7 < 0 → J l z X (d + 2) mX3_bestMeals (0, 0) 192 [jR 19, jI x1, jI x2, jI x3, jI x4, jI x5, jI x6, jI x7, jI x8, jN, jN, jN, jN] [] (jG, M) Q) (k2 : 0 ≤ x7 → 3 ≤ x8 → J l z X (d + 2) mX3_bestMeals (0, 0) 192 [jR 19, jI x1, jI x2, jI x3, jI x4, jI x5, jI x6, jI x7, jI x8, jN, jN, jN, jN] [] (jG, M) Q) (k3 : 0 ≤ x7 → x8 < 3 → (M 19 8) < (x6 + x8) → J l z X (d + 2) mX3_bestMeals (0, 0) 192 [jR 19, jI x1, jI x2, jI x3, jI x4, jI x5, jI x6, jI x7, jI x8, jN, jN, jN, jN] [] (jG, M) Q) (k4 : 0 ≤ x7 → x8 < 3 → (x6 + x8) ≤ (M 19 8) → J l z X (d + 1) mX3_next (0, 0) 0 [jR 19, jI x1, jI 1, jI x3, jI x8, jN, jN] [] (jG, M) (fun r μ => J l z X (d + 2) mX3_bestMeals (0, 0) 75 [jR 19, jI x1, jI x2, jI x3, jI x4, jI x5, jI x6, jI x7, jI x8, jN, jN, jN, jN] (r.toList ++ []) μ Q)) : J l z X (d + 2) mX3_bestMeals (0, 0) 43 [jR 19, jI x1, jI x2, jI x3, jI x4, jI x5, jI x6, jI x7, jI x8, jN, jN, jN, jN] [] (jG, M) Q :=
  (J_iload dX3_bestMeals_43 rfl (J_if_lt dX3_bestMeals_45 (tgt := 192) (by decide) (fun c1 => (k1 c1)) (fun c1 => (J_iload dX3_bestMeals_48 rfl (J_iconst dX3_bestMeals_50 jc_3 (J_icmp_ge dX3_bestMeals_51 (tgt := 192) (by decide) (fun c2 => (k2 c1 c2)) (fun c2 => (J_iload dX3_bestMeals_54 rfl (J_iload dX3_bestMeals_56 rfl (J_iadd dX3_bestMeals_58 (s1 c1 c2) (J_aload_n dX3_bestMeals_59 rfl (J_getI (k := 8) (kz := 8) jcl_X3 dX3_bestMeals_60 wf_X3_48 g_19 (Nat.le_of_ble_eq_true rfl) rfl rfl (J_icmp_gt dX3_bestMeals_63 (tgt := 192) (by decide) (fun c3 => (k3 c1 c2 c3)) (fun c3 => (J_aload_n dX3_bestMeals_66 rfl (J_iload_n dX3_bestMeals_67 rfl (J_iconst dX3_bestMeals_68 jc_1 (J_iload_n dX3_bestMeals_69 rfl (J_iload dX3_bestMeals_70 rfl (J_callV (a1 := (0, 0)) (a2 := (0, 0)) (mm' := mX3_next) (S := []) [jI x1, jI 1, jI x3, jI x8] md_X3_next im_X3_next se_X3_next dX3_bestMeals_72 wm_X3_106 jcl_X3.1 rfl g_19 rfl rfl (Nat.le_of_ble_eq_true rfl) (Nat.le_of_ble_eq_true rfl) rfl (k4 c1 c2 c3)))))))))))))))))))))
theorem b_X3_bestMeals_75 {l : Launch} {z d : Nat} {X : jX} {M : Nat → Int → Int} {Q : Option jV → jM → Prop} {x1 : Int} {x2 : Int} {x3 : Int} {x4 : Int} {x5 : Int} {x6 : Int} {x7 : Int} {x8 : Int} {t0 : Int}   (k1 : J l z X (d + 2) mX3_bestMeals (0, 0) 80 [jR 19, jI x1, jI x2, jI x3, jI x4, jI x5, jI x6, jI x7, jI x8, jI t0, jI 0, jN, jN] [] (jG, M) Q) : J l z X (d + 2) mX3_bestMeals (0, 0) 75 [jR 19, jI x1, jI x2, jI x3, jI x4, jI x5, jI x6, jI x7, jI x8, jN, jN, jN, jN] [jI t0] (jG, M) Q :=
  (J_istore dX3_bestMeals_75 (Nat.le_of_ble_eq_true rfl) (J_iconst dX3_bestMeals_77 jc_0 (J_istore dX3_bestMeals_78 (Nat.le_of_ble_eq_true rfl) k1)))
theorem b_X3_bestMeals_80 {l : Launch} {z d : Nat} {X : jX} {M : Nat → Int → Int} {Q : Option jV → jM → Prop} {x1 : Int} {x2 : Int} {x3 : Int} {x4 : Int} {x5 : Int} {x6 : Int} {x7 : Int} {x8 : Int} {x9 : Int} {x10 : Int}  (s1 : 0 ≤ x9 → x10 < 3 → jIn (x6 + x8)) (s2 : 0 ≤ x9 → x10 < 3 → jIn ((x6 + x8) + x10)) (k1 : x9 < 0 → J l z X (d + 2) mX3_bestMeals (0, 0) 186 [jR 19, jI x1, jI x2, jI x3, jI x4, jI x5, jI x6, jI x7, jI x8, jI x9, jI x10, jN, jN] [] (jG, M) Q) (k2 : 0 ≤ x9 → 3 ≤ x10 → J l z X (d + 2) mX3_bestMeals (0, 0) 186 [jR 19, jI x1, jI x2, jI x3, jI x4, jI x5, jI x6, jI x7, jI x8, jI x9, jI x10, jN, jN] [] (jG, M) Q) (k3 : 0 ≤ x9 → x10 < 3 → (M 19 8) < ((x6 + x8) + x10) → J l z X (d + 2) mX3_bestMeals (0, 0) 186 [jR 19, jI x1, jI x2, jI x3, jI x4, jI x5, jI x6, jI x7, jI x8, jI x9, jI x10, jN, jN] [] (jG, M) Q) (k4 : 0 ≤ x9 → x10 < 3 → ((x6 + x8) + x10) ≤ (M 19 8) → J l z X (d + 1) mX3_next (0, 0) 0 [jR 19, jI x1, jI 2, jI x4, jI x10, jN, jN] [] (jG, M) (fun r μ => J l z X (d + 2) mX3_bestMeals (0, 0) 116 [jR 19, jI x1, jI x2, jI x3, jI x4, jI x5, jI x6, jI x7, jI x8, jI x9, jI x10, jN, jN] (r.toList ++ []) μ Q)) : J l z X (d + 2) mX3_bestMeals (0, 0) 80 [jR 19, jI x1, jI x2, jI x3, jI x4, jI x5, jI x6, jI x7, jI x8, jI x9, jI x10, jN, jN] [] (jG, M) Q :=
  (J_iload dX3_bestMeals_80 rfl (J_if_lt dX3_bestMeals_82 (tgt := 186) (by decide) (fun c1 => (k1 c1)) (fun c1 => (J_iload dX3_bestMeals_85 rfl (J_iconst dX3_bestMeals_87 jc_3 (J_icmp_ge dX3_bestMeals_88 (tgt := 186) (by decide) (fun c2 => (k2 c1 c2)) (fun c2 => (J_iload dX3_bestMeals_91 rfl (J_iload dX3_bestMeals_93 rfl (J_iadd dX3_bestMeals_95 (s1 c1 c2) (J_iload dX3_bestMeals_96 rfl (J_iadd dX3_bestMeals_98 (s2 c1 c2) (J_aload_n dX3_bestMeals_99 rfl (J_getI (k := 8) (kz := 8) jcl_X3 dX3_bestMeals_100 wf_X3_48 g_19 (Nat.le_of_ble_eq_true rfl) rfl rfl (J_icmp_gt dX3_bestMeals_103 (tgt := 186) (by decide) (fun c3 => (k3 c1 c2 c3)) (fun c3 => (J_aload_n dX3_bestMeals_106 rfl (J_iload_n dX3_bestMeals_107 rfl (J_iconst dX3_bestMeals_108 jc_2 (J_iload dX3_bestMeals_109 rfl (J_iload dX3_bestMeals_111 rfl (J_callV (a1 := (0, 0)) (a2 := (0, 0)) (mm' := mX3_next) (S := []) [jI x1, jI 2, jI x4, jI x10] md_X3_next im_X3_next se_X3_next dX3_bestMeals_113 wm_X3_106 jcl_X3.1 rfl g_19 rfl rfl (Nat.le_of_ble_eq_true rfl) (Nat.le_of_ble_eq_true rfl) rfl (k4 c1 c2 c3)))))))))))))))))))))))
theorem b_X3_bestMeals_116 {l : Launch} {z d : Nat} {X : jX} {M : Nat → Int → Int} {Q : Option jV → jM → Prop} {x1 : Int} {x2 : Int} {x3 : Int} {x4 : Int} {x5 : Int} {x6 : Int} {x7 : Int} {x8 : Int} {x9 : Int} {x10 : Int} {t0 : Int}  (s1 : 0 ≤ t0 → jIn (x6 + x8)) (s2 : 0 ≤ t0 → jIn ((x6 + x8) + x10)) (s3 : 0 ≤ t0 → jIn (x1 + 1)) (k1 : 0 ≤ t0 → J l z X (d + 1) mX3_fewestFrom (0, 0) 0 [jR 19, jI (x1 + 1), jI x7, jI x9, jI t0, jN] [] (jG, M) (fun r μ => J l z X (d + 2) mX3_bestMeals (0, 0) 150 [jR 19, jI x1, jI x2, jI x3, jI x4, jI x5, jI x6, jI x7, jI x8, jI x9, jI x10, jI t0, jN] (r.toList ++ [jI ((x6 + x8) + x10)]) μ Q)) (k2 : t0 < 0 → J l z X (d + 2) mX3_bestMeals (0, 0) 151 [jR 19, jI x1, jI x2, jI x3, jI x4, jI x5, jI x6, jI x7, jI x8, jI x9, jI x10, jI t0, jN] [jI 1000] (jG, M) Q) : J l z X (d + 2) mX3_bestMeals (0, 0) 116 [jR 19, jI x1, jI x2, jI x3, jI x4, jI x5, jI x6, jI x7, jI x8, jI x9, jI x10, jN, jN] [jI t0] (jG, M) Q :=
  (J_istore dX3_bestMeals_116 (Nat.le_of_ble_eq_true rfl) (J_iload dX3_bestMeals_118 rfl (J_if_ge dX3_bestMeals_120 (tgt := 129) (by decide) (fun c1 => (J_iload dX3_bestMeals_129 rfl (J_iload dX3_bestMeals_131 rfl (J_iadd dX3_bestMeals_133 (s1 c1) (J_iload dX3_bestMeals_134 rfl (J_iadd dX3_bestMeals_136 (s2 c1) (J_aload_n dX3_bestMeals_137 rfl (J_iload_n dX3_bestMeals_138 rfl (J_iconst dX3_bestMeals_139 jc_1 (J_iadd dX3_bestMeals_140 (s3 c1) (J_iload dX3_bestMeals_141 rfl (J_iload dX3_bestMeals_143 rfl (J_iload dX3_bestMeals_145 rfl (J_callV (a1 := (0, 0)) (a2 := (0, 0)) (mm' := mX3_fewestFrom) (S := [jI ((x6 + x8) + x10)]) [jI (x1 + 1), jI x7, jI x9, jI t0] md_X3_fewestFrom im_X3_fewestFrom se_X3_fewestFrom dX3_bestMeals_147 wm_X3_66 jcl_X3.1 rfl g_19 rfl rfl (Nat.le_of_ble_eq_true rfl) (Nat.le_of_ble_eq_true rfl) rfl (k1 c1))))))))))))))) (fun c1 => (J_sipush dX3_bestMeals_123 jc_1000 jsp_1000 (J_goto dX3_bestMeals_126 (tgt := 151) (by decide) (k2 c1)))))))
theorem b_X3_bestMeals_150 {l : Launch} {z d : Nat} {X : jX} {M : Nat → Int → Int} {Q : Option jV → jM → Prop} {x1 : Int} {x2 : Int} {x3 : Int} {x4 : Int} {x5 : Int} {x6 : Int} {x7 : Int} {x8 : Int} {x9 : Int} {x10 : Int} {x11 : Int} {t0 : Int} {t1 : Int}  (s1 : jIn (t0 + t1)) (k1 : J l z X (d + 2) mX3_bestMeals (0, 0) 151 [jR 19, jI x1, jI x2, jI x3, jI x4, jI x5, jI x6, jI x7, jI x8, jI x9, jI x10, jI x11, jN] [jI (t0 + t1)] (jG, M) Q) : J l z X (d + 2) mX3_bestMeals (0, 0) 150 [jR 19, jI x1, jI x2, jI x3, jI x4, jI x5, jI x6, jI x7, jI x8, jI x9, jI x10, jI x11, jN] [jI t1, jI t0] (jG, M) Q :=
  (J_iadd dX3_bestMeals_150 s1 k1)
theorem b_X3_bestMeals_151 {l : Launch} {z d : Nat} {X : jX} {M : Nat → Int → Int} {Q : Option jV → jM → Prop} {x1 : Int} {x2 : Int} {x3 : Int} {x4 : Int} {x5 : Int} {x6 : Int} {x7 : Int} {x8 : Int} {x9 : Int} {x10 : Int} {x11 : Int} {t0 : Int}  (s1 : t0 < x5 → jIn (x6 * 3)) (s2 : t0 < x5 → jIn ((x6 * 3) + x8)) (s3 : t0 < x5 → jIn (((x6 * 3) + x8) * 3)) (s4 : t0 < x5 → jIn ((((x6 * 3) + x8) * 3) + x10)) (k1 : x5 ≤ t0 → J l z X (d + 2) mX3_bestMeals (0, 0) 180 [jR 19, jI x1, jI x2, jI x3, jI x4, jI x5, jI x6, jI x7, jI x8, jI x9, jI x10, jI x11, jI t0] [] (jG, M) Q) (k2 : t0 < x5 → J l z X (d + 2) mX3_bestMeals (0, 0) 180 [jR 19, jI x1, jI x2, jI x3, jI x4, jI t0, jI x6, jI x7, jI x8, jI x9, jI x10, jI x11, jI t0] [] (jG, (jupd M 19 10 ((((x6 * 3) + x8) * 3) + x10))) Q) : J l z X (d + 2) mX3_bestMeals (0, 0) 151 [jR 19, jI x1, jI x2, jI x3, jI x4, jI x5, jI x6, jI x7, jI x8, jI x9, jI x10, jI x11, jN] [jI t0] (jG, M) Q :=
  (J_istore dX3_bestMeals_151 (Nat.le_of_ble_eq_true rfl) (J_iload dX3_bestMeals_153 rfl (J_iload dX3_bestMeals_155 rfl (J_icmp_ge dX3_bestMeals_157 (tgt := 180) (by decide) (fun c1 => (k1 c1)) (fun c1 => (J_iload dX3_bestMeals_160 rfl (J_istore dX3_bestMeals_162 (Nat.le_of_ble_eq_true rfl) (J_aload_n dX3_bestMeals_164 rfl (J_iload dX3_bestMeals_165 rfl (J_iconst dX3_bestMeals_167 jc_3 (J_imul dX3_bestMeals_168 (s1 c1) (J_iload dX3_bestMeals_169 rfl (J_iadd dX3_bestMeals_171 (s2 c1) (J_iconst dX3_bestMeals_172 jc_3 (J_imul dX3_bestMeals_173 (s3 c1) (J_iload dX3_bestMeals_174 rfl (J_iadd dX3_bestMeals_176 (s4 c1) (J_putI (k := 10) (kz := 10) jcl_X3 dX3_bestMeals_177 wf_X3_103 g_19 (Nat.le_of_ble_eq_true rfl) rfl rfl rfl (k2 c1)))))))))))))))))))
theorem b_X3_bestMeals_180 {l : Launch} {z d : Nat} {X : jX} {M : Nat → Int → Int} {Q : Option jV → jM → Prop} {x1 : Int} {x2 : Int} {x3 : Int} {x4 : Int} {x5 : Int} {x6 : Int} {x7 : Int} {x8 : Int} {x9 : Int} {x10 : Int} {x11 : Int} {x12 : Int}  (s1 : jIn (x10 + 1)) (k1 : J l z X (d + 2) mX3_bestMeals (0, 0) 80 [jR 19, jI x1, jI x2, jI x3, jI x4, jI x5, jI x6, jI x7, jI x8, jI x9, jI (x10 + 1), jN, jN] [] (jG, M) Q) : J l z X (d + 2) mX3_bestMeals (0, 0) 180 [jR 19, jI x1, jI x2, jI x3, jI x4, jI x5, jI x6, jI x7, jI x8, jI x9, jI x10, jI x11, jI x12] [] (jG, M) Q :=
  (J_iinc dX3_bestMeals_180 rfl jc_1 s1 (J_goto dX3_bestMeals_183 (tgt := 80) (by decide) (J_weak [jR 19, jI x1, jI x2, jI x3, jI x4, jI x5, jI x6, jI x7, jI x8, jI x9, jI (x10 + 1), jN, jN] ⟨Or.inr rfl, Or.inr rfl, Or.inr rfl, Or.inr rfl, Or.inr rfl, Or.inr rfl, Or.inr rfl, Or.inr rfl, Or.inr rfl, Or.inr rfl, Or.inr rfl, Or.inl rfl, Or.inl rfl, trivial⟩ k1)))
theorem b_X3_bestMeals_186 {l : Launch} {z d : Nat} {X : jX} {M : Nat → Int → Int} {Q : Option jV → jM → Prop} {x1 : Int} {x2 : Int} {x3 : Int} {x4 : Int} {x5 : Int} {x6 : Int} {x7 : Int} {x8 : Int} {x9 : Int} {x10 : Int}  (s1 : jIn (x8 + 1)) (k1 : J l z X (d + 2) mX3_bestMeals (0, 0) 43 [jR 19, jI x1, jI x2, jI x3, jI x4, jI x5, jI x6, jI x7, jI (x8 + 1), jN, jN, jN, jN] [] (jG, M) Q) : J l z X (d + 2) mX3_bestMeals (0, 0) 186 [jR 19, jI x1, jI x2, jI x3, jI x4, jI x5, jI x6, jI x7, jI x8, jI x9, jI x10, jN, jN] [] (jG, M) Q :=
  (J_iinc dX3_bestMeals_186 rfl jc_1 s1 (J_goto dX3_bestMeals_189 (tgt := 43) (by decide) (J_weak [jR 19, jI x1, jI x2, jI x3, jI x4, jI x5, jI x6, jI x7, jI (x8 + 1), jN, jN, jN, jN] ⟨Or.inr rfl, Or.inr rfl, Or.inr rfl, Or.inr rfl, Or.inr rfl, Or.inr rfl, Or.inr rfl, Or.inr rfl, Or.inr rfl, Or.inl rfl, Or.inl rfl, Or.inr rfl, Or.inr rfl, trivial⟩ k1)))
theorem b_X3_bestMeals_192 {l : Launch} {z d : Nat} {X : jX} {M : Nat → Int → Int} {Q : Option jV → jM → Prop} {x1 : Int} {x2 : Int} {x3 : Int} {x4 : Int} {x5 : Int} {x6 : Int} {x7 : Int} {x8 : Int}  (s1 : jIn (x6 + 1)) (k1 : J l z X (d + 2) mX3_bestMeals (0, 0) 14 [jR 19, jI x1, jI x2, jI x3, jI x4, jI x5, jI (x6 + 1), jN, jN, jN, jN, jN, jN] [] (jG, M) Q) : J l z X (d + 2) mX3_bestMeals (0, 0) 192 [jR 19, jI x1, jI x2, jI x3, jI x4, jI x5, jI x6, jI x7, jI x8, jN, jN, jN, jN] [] (jG, M) Q :=
  (J_iinc dX3_bestMeals_192 rfl jc_1 s1 (J_goto dX3_bestMeals_195 (tgt := 14) (by decide) (J_weak [jR 19, jI x1, jI x2, jI x3, jI x4, jI x5, jI (x6 + 1), jN, jN, jN, jN, jN, jN] ⟨Or.inr rfl, Or.inr rfl, Or.inr rfl, Or.inr rfl, Or.inr rfl, Or.inr rfl, Or.inr rfl, Or.inl rfl, Or.inl rfl, Or.inr rfl, Or.inr rfl, Or.inr rfl, Or.inr rfl, trivial⟩ k1)))
theorem b_X3_next_0 {l : Launch} {z d : Nat} {X : jX} {M : Nat → Int → Int} {Q : Option jV → jM → Prop} {x1 : Int} {x2 : Int} {x3 : Int} {x4 : Int}  (s1 : jIn (x1 * 3)) (s2 : jIn ((x1 * 3) + x2)) (s3 : jIn (x3 * 3)) (s4 : jIn ((x3 * 3) + x4)) (s5 : 0 ≤ ((x1 * 3) + x2) → ((x1 * 3) + x2) < 18 → 0 ≤ ((x3 * 3) + x4) → ((x3 * 3) + x4) < 39 → 0 ≤ ((x1 * 3) + x2)) (s6 : 0 ≤ ((x1 * 3) + x2) → ((x1 * 3) + x2) < 18 → 0 ≤ ((x3 * 3) + x4) → ((x3 * 3) + x4) < 39 → ((x1 * 3) + x2) < 18) (s7 : 0 ≤ ((x1 * 3) + x2) → ((x1 * 3) + x2) < 18 → 0 ≤ ((x3 * 3) + x4) → ((x3 * 3) + x4) < 39 → 0 ≤ ((x3 * 3) + x4)) (s8 : 0 ≤ ((x1 * 3) + x2) → ((x1 * 3) + x2) < 18 → 0 ≤ ((x3 * 3) + x4) → ((x3 * 3) + x4) < 39 → ((x3 * 3) + x4) < 39) (k1 : ((x1 * 3) + x2) < 0 → Q (some (jI (-6))) (jG, M)) (k2 : 0 ≤ ((x1 * 3) + x2) → 18 ≤ ((x1 * 3) + x2) → Q (some (jI (-6))) (jG, M)) (k3 : 0 ≤ ((x1 * 3) + x2) → ((x1 * 3) + x2) < 18 → ((x3 * 3) + x4) < 0 → Q (some (jI (-6))) (jG, M)) (k4 : 0 ≤ ((x1 * 3) + x2) → ((x1 * 3) + x2) < 18 → 0 ≤ ((x3 * 3) + x4) → 39 ≤ ((x3 * 3) + x4) → Q (some (jI (-6))) (jG, M)) (k5 : 0 ≤ ((x1 * 3) + x2) → ((x1 * 3) + x2) < 18 → 0 ≤ ((x3 * 3) + x4) → ((x3 * 3) + x4) < 39 → Q (some (jI (M (45 + ((x1 * 3) + x2).toNat) ((x3 * 3) + x4)))) (jG, M)) : J l z X d mX3_next (0, 0) 0 [jR 19, jI x1, jI x2, jI x3, jI x4, jN, jN] [] (jG, M) Q :=
  (J_iload_n dX3_next_0 rfl (J_iconst dX3_next_1 jc_3 (J_imul dX3_next_2 s1 (J_iload_n dX3_next_3 rfl (J_iadd dX3_next_4 s2 (J_istore dX3_next_5 (Nat.le_of_ble_eq_true rfl) (J_iload_n dX3_next_7 rfl (J_iconst dX3_next_8 jc_3 (J_imul dX3_next_9 s3 (J_iload dX3_next_10 rfl (J_iadd dX3_next_12 s4 (J_istore dX3_next_13 (Nat.le_of_ble_eq_true rfl) (J_iload dX3_next_15 rfl (J_if_lt dX3_next_17 (tgt := 55) (by decide) (fun c1 => (J_bipush dX3_next_55 jc_m6 jb_m6 (J_iret dX3_next_57 rfl (k1 c1)))) (fun c1 => (J_iload dX3_next_20 rfl (J_aload_n dX3_next_22 rfl (J_getR (k := 3) jcl_X3 dX3_next_23 wf_X3_23 g_19 (Nat.le_of_ble_eq_true rfl) rfl rfl (J_alen3 dX3_next_26 g_44 (Nat.le_of_ble_eq_true rfl) (J_icmp_ge dX3_next_27 (tgt := 55) (by decide) (fun c2 => (J_bipush dX3_next_55 jc_m6 jb_m6 (J_iret dX3_next_57 rfl (k2 c1 c2)))) (fun c2 => (J_iload dX3_next_30 rfl (J_if_lt dX3_next_32 (tgt := 55) (by decide) (fun c3 => (J_bipush dX3_next_55 jc_m6 jb_m6 (J_iret dX3_next_57 rfl (k3 c1 c2 c3)))) (fun c3 => (J_iload dX3_next_35 rfl (J_bipush dX3_next_37 jc_39 jb_39 (J_icmp_ge dX3_next_39 (tgt := 55) (by decide) (fun c4 => (J_bipush dX3_next_55 jc_m6 jb_m6 (J_iret dX3_next_57 rfl (k4 c1 c2 c3 c4)))) (fun c4 => (J_aload_n dX3_next_42 rfl (J_getR (k := 3) jcl_X3 dX3_next_43 wf_X3_23 g_19 (Nat.le_of_ble_eq_true rfl) rfl rfl (J_iload dX3_next_46 rfl (J_aald3 dX3_next_48 g_44 (s5 c1 c2 c3 c4) (s6 c1 c2 c3 c4) (gr_44 (s5 c1 c2 c3 c4) (s6 c1 c2 c3 c4)).1 (J_iload dX3_next_49 rfl (J_iald dX3_next_51 (gr_44 (s5 c1 c2 c3 c4) (s6 c1 c2 c3 c4)).2 (s7 c1 c2 c3 c4) (s8 c1 c2 c3 c4) (J_goto dX3_next_52 (tgt := 57) (by decide) (J_iret dX3_next_57 rfl (k5 c1 c2 c3 c4)))))))))))))))))))))))))))))))))))))
theorem b_X3_fewestFrom_0 {l : Launch} {z d : Nat} {X : jX} {M : Nat → Int → Int} {Q : Option jV → jM → Prop} {x1 : Int} {x2 : Int} {x3 : Int} {x4 : Int}  (s1 : 0 ≤ x1 → x1 < (M 19 7) → x1 < 6 → 0 ≤ x1) (s2 : 0 ≤ x1 → x1 < (M 19 7) → x1 < 6 → x1 < 7) (k1 : x1 < 0 → Q (some (jI 0)) (jG, M)) (k2 : 0 ≤ x1 → (M 19 7) ≤ x1 → Q (some (jI 0)) (jG, M)) (k3 : 0 ≤ x1 → x1 < (M 19 7) → x1 < 6 → J l z X d mX3_countOf (0, 0) 0 [jR 19, jI x1, jI 1, jN] [] (jG, M) (fun r μ => J l z X (d + 1) mX3_fewestFrom (0, 0) 33 [jR 19, jI x1, jI x2, jI x3, jI x4, jN] (r.toList ++ [jI x2, jI (M 64 x1)]) μ Q)) (k4 : 0 ≤ x1 → x1 < (M 19 7) → 6 ≤ x1 → Q (some (jI 0)) (jG, M)) : J l z X (d + 1) mX3_fewestFrom (0, 0) 0 [jR 19, jI x1, jI x2, jI x3, jI x4, jN] [] (jG, M) Q :=
  (J_iload_n dX3_fewestFrom_0 rfl (J_if_lt dX3_fewestFrom_1 (tgt := 18) (by decide) (fun c1 => (J_iconst dX3_fewestFrom_18 jc_0 (J_iret dX3_fewestFrom_19 rfl (k1 c1)))) (fun c1 => (J_iload_n dX3_fewestFrom_4 rfl (J_aload_n dX3_fewestFrom_5 rfl (J_getI (k := 7) (kz := 7) jcl_X3 dX3_fewestFrom_6 wf_X3_44 g_19 (Nat.le_of_ble_eq_true rfl) rfl rfl (J_icmp_ge dX3_fewestFrom_9 (tgt := 18) (by decide) (fun c2 => (J_iconst dX3_fewestFrom_18 jc_0 (J_iret dX3_fewestFrom_19 rfl (k2 c1 c2)))) (fun c2 => (J_iload_n dX3_fewestFrom_12 rfl (J_bipush dX3_fewestFrom_13 jc_6 jb_6 (J_icmp_lt dX3_fewestFrom_15 (tgt := 20) (by decide) (fun c3 => (J_aload_n dX3_fewestFrom_20 rfl (J_getR (k := 5) jcl_X3 dX3_fewestFrom_21 wf_X3_29 g_19 (Nat.le_of_ble_eq_true rfl) rfl rfl (J_iload_n dX3_fewestFrom_24 rfl (J_iald dX3_fewestFrom_25 g_64 (s1 c1 c2 c3) (s2 c1 c2 c3) (J_iload_n dX3_fewestFrom_26 rfl (J_aload_n dX3_fewestFrom_27 rfl (J_iload_n dX3_fewestFrom_28 rfl (J_iconst dX3_fewestFrom_29 jc_1 (J_callV (a1 := (0, 0)) (a2 := (0, 0)) (mm' := mX3_countOf) (S := [jI x2, jI (M 64 x1)]) [jI x1, jI 1] md_X3_countOf im_X3_countOf se_X3_countOf dX3_fewestFrom_30 wm_X3_97 jcl_X3.1 rfl g_19 rfl rfl (Nat.le_of_ble_eq_true rfl) (Nat.le_of_ble_eq_true rfl) rfl (k3 c1 c2 c3))))))))))) (fun c3 => (J_iconst dX3_fewestFrom_18 jc_0 (J_iret dX3_fewestFrom_19 rfl (k4 c1 c2 c3)))))))))))))))
theorem b_X3_fewestFrom_33 {l : Launch} {z d : Nat} {X : jX} {M : Nat → Int → Int} {Q : Option jV → jM → Prop} {x1 : Int} {x2 : Int} {x3 : Int} {x4 : Int} {t0 : Int} {t1 : Int} {t2 : Int}  (s1 : jIn (t1 * t2)) (s2 : jIn ((t1 * t2) + x3)) (k1 : J l z X d mX3_countOf (0, 0) 0 [jR 19, jI x1, jI 2, jN] [] (jG, M) (fun r μ => J l z X (d + 1) mX3_fewestFrom (0, 0) 42 [jR 19, jI x1, jI x2, jI x3, jI x4, jN] (r.toList ++ [jI ((t1 * t2) + x3), jI t0]) μ Q)) : J l z X (d + 1) mX3_fewestFrom (0, 0) 33 [jR 19, jI x1, jI x2, jI x3, jI x4, jN] [jI t2, jI t1, jI t0] (jG, M) Q :=
  (J_imul dX3_fewestFrom_33 s1 (J_iload_n dX3_fewestFrom_34 rfl (J_iadd dX3_fewestFrom_35 s2 (J_aload_n dX3_fewestFrom_36 rfl (J_iload_n dX3_fewestFrom_37 rfl (J_iconst dX3_fewestFrom_38 jc_2 (J_callV (a1 := (0, 0)) (a2 := (0, 0)) (mm' := mX3_countOf) (S := [jI ((t1 * t2) + x3), jI t0]) [jI x1, jI 2] md_X3_countOf im_X3_countOf se_X3_countOf dX3_fewestFrom_39 wm_X3_97 jcl_X3.1 rfl g_19 rfl rfl (Nat.le_of_ble_eq_true rfl) (Nat.le_of_ble_eq_true rfl) rfl k1)))))))
theorem b_X3_fewestFrom_42 {l : Launch} {z d : Nat} {X : jX} {M : Nat → Int → Int} {Q : Option jV → jM → Prop} {x1 : Int} {x2 : Int} {x3 : Int} {x4 : Int} {t0 : Int} {t1 : Int} {t2 : Int}  (s1 : jIn (t1 * t2)) (s2 : jIn (t0 + (t1 * t2))) (s3 : jIn ((t0 + (t1 * t2)) + x4)) (s4 : 0 ≤ ((t0 + (t1 * t2)) + x4) → ((t0 + (t1 * t2)) + x4) < 2556 → 0 ≤ ((t0 + (t1 * t2)) + x4)) (s5 : 0 ≤ ((t0 + (t1 * t2)) + x4) → ((t0 + (t1 * t2)) + x4) < 2556 → ((t0 + (t1 * t2)) + x4) < 2556) (k1 : ((t0 + (t1 * t2)) + x4) < 0 → Q (some (jI 1000)) (jG, M)) (k2 : 0 ≤ ((t0 + (t1 * t2)) + x4) → 2556 ≤ ((t0 + (t1 * t2)) + x4) → Q (some (jI 1000)) (jG, M)) (k3 : 0 ≤ ((t0 + (t1 * t2)) + x4) → ((t0 + (t1 * t2)) + x4) < 2556 → Q (some (jI (M 63 ((t0 + (t1 * t2)) + x4)))) (jG, M)) : J l z X (d + 1) mX3_fewestFrom (0, 0) 42 [jR 19, jI x1, jI x2, jI x3, jI x4, jN] [jI t2, jI t1, jI t0] (jG, M) Q :=
  (J_imul dX3_fewestFrom_42 s1 (J_iadd dX3_fewestFrom_43 s2 (J_iload dX3_fewestFrom_44 rfl (J_iadd dX3_fewestFrom_46 s3 (J_istore dX3_fewestFrom_47 (Nat.le_of_ble_eq_true rfl) (J_iload dX3_fewestFrom_49 rfl (J_if_lt dX3_fewestFrom_51 (tgt := 72) (by decide) (fun c1 => (J_sipush dX3_fewestFrom_72 jc_1000 jsp_1000 (J_iret dX3_fewestFrom_75 rfl (k1 c1)))) (fun c1 => (J_iload dX3_fewestFrom_54 rfl (J_sipush dX3_fewestFrom_56 jc_2556 jsp_2556 (J_icmp_ge dX3_fewestFrom_59 (tgt := 72) (by decide) (fun c2 => (J_sipush dX3_fewestFrom_72 jc_1000 jsp_1000 (J_iret dX3_fewestFrom_75 rfl (k2 c1 c2)))) (fun c2 => (J_aload_n dX3_fewestFrom_62 rfl (J_getR (k := 4) jcl_X3 dX3_fewestFrom_63 wf_X3_26 g_19 (Nat.le_of_ble_eq_true rfl) rfl rfl (J_iload dX3_fewestFrom_66 rfl (J_iald dX3_fewestFrom_68 g_63 (s4 c1 c2) (s5 c1 c2) (J_goto dX3_fewestFrom_69 (tgt := 75) (by decide) (J_iret dX3_fewestFrom_75 rfl (k3 c1 c2)))))))))))))))))))
theorem b_X3_eats_0 {l : Launch} {z d : Nat} {X : jX} {M : Nat → Int → Int} {Q : Option jV → jM → Prop} {x1 : Int} {x2 : Int}   (k1 : J l z X (d + 3) mX3_walk (0, 0) 0 [jR 19, jN, jN, jN, jN, jN, jN, jN] [] (jG, M) (fun r μ => J l z X (d + 4) mX3_eats (0, 0) 4 [jR 19, jI x1, jI x2, jN] (r.toList ++ []) μ Q)) : J l z X (d + 4) mX3_eats (0, 0) 0 [jR 19, jI x1, jI x2, jN] [] (jG, M) Q :=
  (J_aload_n dX3_eats_0 rfl (J_callV (a1 := (0, 0)) (a2 := (0, 0)) (mm' := mX3_walk) (S := []) [] md_X3_walk im_X3_walk se_X3_walk dX3_eats_1 wm_X3_109 jcl_X3.1 rfl g_19 rfl rfl (Nat.le_of_ble_eq_true rfl) (Nat.le_of_ble_eq_true rfl) rfl k1))
theorem b_X3_eats_4 {l : Launch} {z d : Nat} {X : jX} {M : Nat → Int → Int} {Q : Option jV → jM → Prop} {x1 : Int} {x2 : Int}   (k1 : J l z X (d + 4) mX3_eats (0, 0) 6 [jR 19, jI x1, jI x2, jI 0] [] (jG, M) Q) : J l z X (d + 4) mX3_eats (0, 0) 4 [jR 19, jI x1, jI x2, jN] [] (jG, M) Q :=
  (J_iconst dX3_eats_4 jc_0 (J_istore_n dX3_eats_5 (Nat.le_of_ble_eq_true rfl) k1))
theorem b_X3_eats_6 {l : Launch} {z d : Nat} {X : jX} {M : Nat → Int → Int} {Q : Option jV → jM → Prop} {x1 : Int} {x2 : Int} {x3 : Int}  (s1 : x3 < 3 → 0 ≤ x3) (s2 : x3 < 3 → x3 < 3) (s3 : x3 < 3 → (M 20 x3) = x2 → 0 ≤ x1 → x1 < (M 19 7) → x1 < 6 → jIn (x1 * 3)) (s4 : x3 < 3 → (M 20 x3) = x2 → 0 ≤ x1 → x1 < (M 19 7) → x1 < 6 → jIn ((x1 * 3) + x3)) (s5 : x3 < 3 → (M 20 x3) = x2 → 0 ≤ x1 → x1 < (M 19 7) → x1 < 6 → 0 ≤ ((x1 * 3) + x3)) (s6 : x3 < 3 → (M 20 x3) = x2 → 0 ≤ x1 → x1 < (M 19 7) → x1 < 6 → ((x1 * 3) + x3) < 18) (k1 : 3 ≤ x3 → Q (some (jI (-1))) (jG, M)) (k2 : x3 < 3 → (M 20 x3) ≠ x2 → J l z X (d + 4) mX3_eats (0, 0) 50 [jR 19, jI x1, jI x2, jI x3] [] (jG, M) Q) (k3 : x3 < 3 → (M 20 x3) = x2 → x1 < 0 → J l z X (d + 4) mX3_eats (0, 0) 50 [jR 19, jI x1, jI x2, jI x3] [] (jG, M) Q) (k4 : x3 < 3 → (M 20 x3) = x2 → 0 ≤ x1 → (M 19 7) ≤ x1 → J l z X (d + 4) mX3_eats (0, 0) 50 [jR 19, jI x1, jI x2, jI x3] [] (jG, M) Q) (k5 : x3 < 3 → (M 20 x3) = x2 → 0 ≤ x1 → x1 < (M 19 7) → 6 ≤ x1 → J l z X (d + 4) mX3_eats (0, 0) 50 [jR 19, jI x1, jI x2, jI x3] [] (jG, M) Q) (k6 : x3 < 3 → (M 20 x3) = x2 → 0 ≤ x1 → x1 < (M 19 7) → x1 < 6 → Q (some (jI (M 65 ((x1 * 3) + x3)))) (jG, M)) : J l z X (d + 4) mX3_eats (0, 0) 6 [jR 19, jI x1, jI x2, jI x3] [] (jG, M) Q :=
  (J_iload_n dX3_eats_6 rfl (J_iconst dX3_eats_7 jc_3 (J_icmp_ge dX3_eats_8 (tgt := 56) (by decide) (fun c1 => (J_iconst dX3_eats_56 jc_m1 (J_iret dX3_eats_57 rfl (k1 c1)))) (fun c1 => (J_aload_n dX3_eats_11 rfl (J_getR (k := 0) jcl_X3 dX3_eats_12 wf_X3_11 g_19 (Nat.le_of_ble_eq_true rfl) rfl rfl (J_iload_n dX3_eats_15 rfl (J_iald dX3_eats_16 g_20 (s1 c1) (s2 c1) (J_iload_n dX3_eats_17 rfl (J_icmp_ne dX3_eats_18 (tgt := 50) (by decide) (fun c2 => (k2 c1 c2)) (fun c2 => (J_iload_n dX3_eats_21 rfl (J_if_lt dX3_eats_22 (tgt := 50) (by decide) (fun c3 => (k3 c1 c2 c3)) (fun c3 => (J_iload_n dX3_eats_25 rfl (J_aload_n dX3_eats_26 rfl (J_getI (k := 7) (kz := 7) jcl_X3 dX3_eats_27 wf_X3_44 g_19 (Nat.le_of_ble_eq_true rfl) rfl rfl (J_icmp_ge dX3_eats_30 (tgt := 50) (by decide) (fun c4 => (k4 c1 c2 c3 c4)) (fun c4 => (J_iload_n dX3_eats_33 rfl (J_bipush dX3_eats_34 jc_6 jb_6 (J_icmp_ge dX3_eats_36 (tgt := 50) (by decide) (fun c5 => (k5 c1 c2 c3 c4 c5)) (fun c5 => (J_aload_n dX3_eats_39 rfl (J_getR (k := 6) jcl_X3 dX3_eats_40 wf_X3_32 g_19 (Nat.le_of_ble_eq_true rfl) rfl rfl (J_iload_n dX3_eats_43 rfl (J_iconst dX3_eats_44 jc_3 (J_imul dX3_eats_45 (s3 c1 c2 c3 c4 c5) (J_iload_n dX3_eats_46 rfl (J_iadd dX3_eats_47 (s4 c1 c2 c3 c4 c5) (J_iald dX3_eats_48 g_65 (s5 c1 c2 c3 c4 c5) (s6 c1 c2 c3 c4 c5) (J_iret dX3_eats_49 rfl (k6 c1 c2 c3 c4 c5)))))))))))))))))))))))))))))))))
theorem b_X3_eats_50 {l : Launch} {z d : Nat} {X : jX} {M : Nat → Int → Int} {Q : Option jV → jM → Prop} {x1 : Int} {x2 : Int} {x3 : Int}  (s1 : jIn (x3 + 1)) (k1 : J l z X (d + 4) mX3_eats (0, 0) 6 [jR 19, jI x1, jI x2, jI (x3 + 1)] [] (jG, M) Q) : J l z X (d + 4) mX3_eats (0, 0) 50 [jR 19, jI x1, jI x2, jI x3] [] (jG, M) Q :=
  (J_iinc dX3_eats_50 rfl jc_1 s1 (J_goto dX3_eats_53 (tgt := 6) (by decide) k1))
theorem b_X3_walk_0 {l : Launch} {z d : Nat} {X : jX} {M : Nat → Int → Int} {Q : Option jV → jM → Prop}    (k1 : J l z X (d + 3) mX3_walk (0, 0) 9 [jR 19, jI 0, jI 0, jI 0, jI 0, jN, jN, jN] [] (jG, M) Q) : J l z X (d + 3) mX3_walk (0, 0) 0 [jR 19, jN, jN, jN, jN, jN, jN, jN] [] (jG, M) Q :=
  (J_iconst dX3_walk_0 jc_0 (J_istore_n dX3_walk_1 (Nat.le_of_ble_eq_true rfl) (J_iconst dX3_walk_2 jc_0 (J_istore_n dX3_walk_3 (Nat.le_of_ble_eq_true rfl) (J_iconst dX3_walk_4 jc_0 (J_istore_n dX3_walk_5 (Nat.le_of_ble_eq_true rfl) (J_iconst dX3_walk_6 jc_0 (J_istore dX3_walk_7 (Nat.le_of_ble_eq_true rfl) k1))))))))
theorem b_X3_walk_9 {l : Launch} {z d : Nat} {X : jX} {M : Nat → Int → Int} {Q : Option jV → jM → Prop} {x1 : Int} {x2 : Int} {x3 : Int} {x4 : Int}   (k1 : (M 19 7) ≤ x4 → Q none (jG, M)) (k2 : x4 < (M 19 7) → 6 ≤ x4 → Q none (jG, M)) (k3 : x4 < (M 19 7) → x4 < 6 → J l z X (d + 2) mX3_bestMeals (0, 0) 0 [jR 19, jI x4, jI x1, jI x2, jI x3, jN, jN, jN, jN, jN, jN, jN, jN] [] (jG, M) (fun r μ => J l z X (d + 3) mX3_walk (0, 0) 34 [jR 19, jI x1, jI x2, jI x3, jI x4, jN, jN, jN] (r.toList ++ []) μ Q)) : J l z X (d + 3) mX3_walk (0, 0) 9 [jR 19, jI x1, jI x2, jI x3, jI x4, jN, jN, jN] [] (jG, M) Q :=
  (J_iload dX3_walk_9 rfl (J_aload_n dX3_walk_11 rfl (J_getI (k := 7) (kz := 7) jcl_X3 dX3_walk_12 wf_X3_44 g_19 (Nat.le_of_ble_eq_true rfl) rfl rfl (J_icmp_ge dX3_walk_15 (tgt := 151) (by decide) (fun c1 => (J_vret dX3_walk_151 rfl (k1 c1))) (fun c1 => (J_iload dX3_walk_18 rfl (J_bipush dX3_walk_20 jc_6 jb_6 (J_icmp_ge dX3_walk_22 (tgt := 151) (by decide) (fun c2 => (J_vret dX3_walk_151 rfl (k2 c1 c2))) (fun c2 => (J_aload_n dX3_walk_25 rfl (J_iload dX3_walk_26 rfl (J_iload_n dX3_walk_28 rfl (J_iload_n dX3_walk_29 rfl (J_iload_n dX3_walk_30 rfl (J_callV (a1 := (0, 0)) (a2 := (0, 0)) (mm' := mX3_bestMeals) (S := []) [jI x4, jI x1, jI x2, jI x3] md_X3_bestMeals im_X3_bestMeals se_X3_bestMeals dX3_walk_31 wm_X3_100 jcl_X3.1 rfl g_19 rfl rfl (Nat.le_of_ble_eq_true rfl) (Nat.le_of_ble_eq_true rfl) rfl (k3 c1 c2))))))))))))))))
theorem b_X3_walk_34 {l : Launch} {z d : Nat} {X : jX} {M : Nat → Int → Int} {Q : Option jV → jM → Prop} {x1 : Int} {x2 : Int} {x3 : Int} {x4 : Int} {t0 : Int}  (s1 : t0 < 1000 → 0 ≤ (M 19 10) → 0 ≤ (M 19 10)) (s2 : t0 < 1000 → 0 ≤ (M 19 10) → 0 ≤ ((M 19 10) / 3)) (s3 : t0 < 1000 → 0 ≤ (M 19 10) → jIn (x4 * 3)) (s4 : t0 < 1000 → 0 ≤ (M 19 10) → 0 ≤ (x4 * 3)) (s5 : t0 < 1000 → 0 ≤ (M 19 10) → (x4 * 3) < 18) (s6 : t0 < 1000 → 0 ≤ (M 19 10) → jIn ((x4 * 3) + 1)) (s7 : t0 < 1000 → 0 ≤ (M 19 10) → 0 ≤ ((x4 * 3) + 1)) (s8 : t0 < 1000 → 0 ≤ (M 19 10) → ((x4 * 3) + 1) < 18) (s9 : t0 < 1000 → 0 ≤ (M 19 10) → jIn ((x4 * 3) + 2)) (s10 : t0 < 1000 → 0 ≤ (M 19 10) → 0 ≤ ((x4 * 3) + 2)) (s11 : t0 < 1000 → 0 ≤ (M 19 10) → ((x4 * 3) + 2) < 18) (k1 : 1000 ≤ t0 → Q none (jG, M)) (k2 : t0 < 1000 → 0 ≤ (M 19 10) → J l z X (d + 2) mX3_next (0, 0) 0 [jR 19, jI x4, jI 0, jI x1, jI ((M 19 10) / 9), jN, jN] [] (jG, (jupd (jupd (jupd M 65 (x4 * 3) ((M 19 10) / 9)) 65 ((x4 * 3) + 1) (((M 19 10) / 3) % 3)) 65 ((x4 * 3) + 2) ((M 19 10) % 3))) (fun r μ => J l z X (d + 3) mX3_walk (0, 0) 122 [jR 19, jI x1, jI x2, jI x3, jI x4, jI ((M 19 10) / 9), jI (((M 19 10) / 3) % 3), jI ((M 19 10) % 3)] (r.toList ++ []) μ Q)) (k3 : t0 < 1000 → (M 19 10) < 0 → Q none (jG, M)) : J l z X (d + 3) mX3_walk (0, 0) 34 [jR 19, jI x1, jI x2, jI x3, jI x4, jN, jN, jN] [jI t0] (jG, M) Q :=
  (J_sipush dX3_walk_34 jc_1000 jsp_1000 (J_icmp_ge dX3_walk_37 (tgt := 47) (by decide) (fun c1 => (J_vret dX3_walk_47 rfl (k1 c1))) (fun c1 => (J_aload_n dX3_walk_40 rfl (J_getI (k := 10) (kz := 10) jcl_X3 dX3_walk_41 wf_X3_103 g_19 (Nat.le_of_ble_eq_true rfl) rfl rfl (J_if_ge dX3_walk_44 (tgt := 48) (by decide) (fun c2 => (J_aload_n dX3_walk_48 rfl (J_getI (k := 10) (kz := 10) jcl_X3 dX3_walk_49 wf_X3_103 g_19 (Nat.le_of_ble_eq_true rfl) rfl rfl (J_bipush dX3_walk_52 jc_9 jb_9 (J_idiv dX3_walk_54 (s1 c1 c2) (by decide) (J_istore dX3_walk_55 (Nat.le_of_ble_eq_true rfl) (J_aload_n dX3_walk_57 rfl (J_getI (k := 10) (kz := 10) jcl_X3 dX3_walk_58 wf_X3_103 g_19 (Nat.le_of_ble_eq_true rfl) rfl rfl (J_iconst dX3_walk_61 jc_3 (J_idiv dX3_walk_62 (s1 c1 c2) (by decide) (J_iconst dX3_walk_63 jc_3 (J_irem dX3_walk_64 (s2 c1 c2) (by decide) (J_istore dX3_walk_65 (Nat.le_of_ble_eq_true rfl) (J_aload_n dX3_walk_67 rfl (J_getI (k := 10) (kz := 10) jcl_X3 dX3_walk_68 wf_X3_103 g_19 (Nat.le_of_ble_eq_true rfl) rfl rfl (J_iconst dX3_walk_71 jc_3 (J_irem dX3_walk_72 (s1 c1 c2) (by decide) (J_istore dX3_walk_73 (Nat.le_of_ble_eq_true rfl) (J_aload_n dX3_walk_75 rfl (J_getR (k := 6) jcl_X3 dX3_walk_76 wf_X3_32 g_19 (Nat.le_of_ble_eq_true rfl) rfl rfl (J_iload dX3_walk_79 rfl (J_iconst dX3_walk_81 jc_3 (J_imul dX3_walk_82 (s3 c1 c2) (J_iload dX3_walk_83 rfl (J_iast dX3_walk_85 g_65 (s4 c1 c2) (s5 c1 c2) (J_aload_n dX3_walk_86 rfl (J_getR (k := 6) jcl_X3 dX3_walk_87 wf_X3_32 g_19 (Nat.le_of_ble_eq_true rfl) rfl rfl (J_iload dX3_walk_90 rfl (J_iconst dX3_walk_92 jc_3 (J_imul dX3_walk_93 (s3 c1 c2) (J_iconst dX3_walk_94 jc_1 (J_iadd dX3_walk_95 (s6 c1 c2) (J_iload dX3_walk_96 rfl (J_iast dX3_walk_98 g_65 (s7 c1 c2) (s8 c1 c2) (J_aload_n dX3_walk_99 rfl (J_getR (k := 6) jcl_X3 dX3_walk_100 wf_X3_32 g_19 (Nat.le_of_ble_eq_true rfl) rfl rfl (J_iload dX3_walk_103 rfl (J_iconst dX3_walk_105 jc_3 (J_imul dX3_walk_106 (s3 c1 c2) (J_iconst dX3_walk_107 jc_2 (J_iadd dX3_walk_108 (s9 c1 c2) (J_iload dX3_walk_109 rfl (J_iast dX3_walk_111 g_65 (s10 c1 c2) (s11 c1 c2) (J_aload_n dX3_walk_112 rfl (J_iload dX3_walk_113 rfl (J_iconst dX3_walk_115 jc_0 (J_iload_n dX3_walk_116 rfl (J_iload dX3_walk_117 rfl (J_callV (a1 := (0, 0)) (a2 := (0, 0)) (mm' := mX3_next) (S := []) [jI x4, jI 0, jI x1, jI ((M 19 10) / 9)] md_X3_next im_X3_next se_X3_next dX3_walk_119 wm_X3_106 jcl_X3.1 rfl g_19 rfl rfl (Nat.le_of_ble_eq_true rfl) (Nat.le_of_ble_eq_true rfl) rfl (k2 c1 c2)))))))))))))))))))))))))))))))))))))))))))))))))) (fun c2 => (J_vret dX3_walk_47 rfl (k3 c1 c2)))))))))
theorem b_X3_walk_122 {l : Launch} {z d : Nat} {X : jX} {M : Nat → Int → Int} {Q : Option jV → jM → Prop} {x1 : Int} {x2 : Int} {x3 : Int} {x4 : Int} {x5 : Int} {x6 : Int} {x7 : Int} {t0 : Int}   (k1 : J l z X (d + 2) mX3_next (0, 0) 0 [jR 19, jI x4, jI 1, jI x2, jI x6, jN, jN] [] (jG, M) (fun r μ => J l z X (d + 3) mX3_walk (0, 0) 133 [jR 19, jI t0, jI x2, jI x3, jI x4, jI x5, jI x6, jI x7] (r.toList ++ []) μ Q)) : J l z X (d + 3) mX3_walk (0, 0) 122 [jR 19, jI x1, jI x2, jI x3, jI x4, jI x5, jI x6, jI x7] [jI t0] (jG, M) Q :=
  (J_istore_n dX3_walk_122 (Nat.le_of_ble_eq_true rfl) (J_aload_n dX3_walk_123 rfl (J_iload dX3_walk_124 rfl (J_iconst dX3_walk_126 jc_1 (J_iload_n dX3_walk_127 rfl (J_iload dX3_walk_128 rfl (J_callV (a1 := (0, 0)) (a2 := (0, 0)) (mm' := mX3_next) (S := []) [jI x4, jI 1, jI x2, jI x6] md_X3_next im_X3_next se_X3_next dX3_walk_130 wm_X3_106 jcl_X3.1 rfl g_19 rfl rfl (Nat.le_of_ble_eq_true rfl) (Nat.le_of_ble_eq_true rfl) rfl k1)))))))
theorem b_X3_walk_133 {l : Launch} {z d : Nat} {X : jX} {M : Nat → Int → Int} {Q : Option jV → jM → Prop} {x1 : Int} {x2 : Int} {x3 : Int} {x4 : Int} {x5 : Int} {x6 : Int} {x7 : Int} {t0 : Int}   (k1 : J l z X (d + 2) mX3_next (0, 0) 0 [jR 19, jI x4, jI 2, jI x3, jI x7, jN, jN] [] (jG, M) (fun r μ => J l z X (d + 3) mX3_walk (0, 0) 144 [jR 19, jI x1, jI t0, jI x3, jI x4, jI x5, jI x6, jI x7] (r.toList ++ []) μ Q)) : J l z X (d + 3) mX3_walk (0, 0) 133 [jR 19, jI x1, jI x2, jI x3, jI x4, jI x5, jI x6, jI x7] [jI t0] (jG, M) Q :=
  (J_istore_n dX3_walk_133 (Nat.le_of_ble_eq_true rfl) (J_aload_n dX3_walk_134 rfl (J_iload dX3_walk_135 rfl (J_iconst dX3_walk_137 jc_2 (J_iload_n dX3_walk_138 rfl (J_iload dX3_walk_139 rfl (J_callV (a1 := (0, 0)) (a2 := (0, 0)) (mm' := mX3_next) (S := []) [jI x4, jI 2, jI x3, jI x7] md_X3_next im_X3_next se_X3_next dX3_walk_141 wm_X3_106 jcl_X3.1 rfl g_19 rfl rfl (Nat.le_of_ble_eq_true rfl) (Nat.le_of_ble_eq_true rfl) rfl k1)))))))
theorem b_X3_walk_144 {l : Launch} {z d : Nat} {X : jX} {M : Nat → Int → Int} {Q : Option jV → jM → Prop} {x1 : Int} {x2 : Int} {x3 : Int} {x4 : Int} {x5 : Int} {x6 : Int} {x7 : Int} {t0 : Int}  (s1 : jIn (x4 + 1)) (k1 : J l z X (d + 3) mX3_walk (0, 0) 9 [jR 19, jI x1, jI x2, jI t0, jI (x4 + 1), jN, jN, jN] [] (jG, M) Q) : J l z X (d + 3) mX3_walk (0, 0) 144 [jR 19, jI x1, jI x2, jI x3, jI x4, jI x5, jI x6, jI x7] [jI t0] (jG, M) Q :=
  (J_istore_n dX3_walk_144 (Nat.le_of_ble_eq_true rfl) (J_iinc dX3_walk_145 rfl jc_1 s1 (J_goto dX3_walk_148 (tgt := 9) (by decide) (J_weak [jR 19, jI x1, jI x2, jI t0, jI (x4 + 1), jN, jN, jN] ⟨Or.inr rfl, Or.inr rfl, Or.inr rfl, Or.inr rfl, Or.inr rfl, Or.inl rfl, Or.inl rfl, Or.inl rfl, trivial⟩ k1))))
