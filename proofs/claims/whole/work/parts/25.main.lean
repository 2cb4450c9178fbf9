theorem dX9_init_0 : decode cX9_init 0 = .ok (.aload_n 0, 1) := by decide +kernel
theorem dX9_init_1 : decode cX9_init 1 = .ok (.invokespecial 3, 3) := by decide +kernel
theorem dX9_init_4 : decode cX9_init 4 = .ok (.aload_n 0, 1) := by decide +kernel
theorem dX9_init_5 : decode cX9_init 5 = .ok (.new 9, 3) := by decide +kernel
theorem dX9_init_8 : decode cX9_init 8 = .ok (.dup, 1) := by decide +kernel
theorem dX9_init_9 : decode cX9_init 9 = .ok (.invokespecial 11, 3) := by decide +kernel
theorem dX9_init_12 : decode cX9_init 12 = .ok (.putfield 12, 3) := by decide +kernel
theorem dX9_init_15 : decode cX9_init 15 = .ok (.aload_n 0, 1) := by decide +kernel
theorem dX9_init_16 : decode cX9_init 16 = .ok (.new 16, 3) := by decide +kernel
theorem dX9_init_19 : decode cX9_init 19 = .ok (.dup, 1) := by decide +kernel
theorem dX9_init_20 : decode cX9_init 20 = .ok (.invokespecial 18, 3) := by decide +kernel
theorem dX9_init_23 : decode cX9_init 23 = .ok (.putfield 19, 3) := by decide +kernel
theorem dX9_init_26 : decode cX9_init 26 = .ok (.aload_n 0, 1) := by decide +kernel
theorem dX9_init_27 : decode cX9_init 27 = .ok (.new 23, 3) := by decide +kernel
theorem dX9_init_30 : decode cX9_init 30 = .ok (.dup, 1) := by decide +kernel
theorem dX9_init_31 : decode cX9_init 31 = .ok (.invokespecial 25, 3) := by decide +kernel
theorem dX9_init_34 : decode cX9_init 34 = .ok (.putfield 26, 3) := by decide +kernel
theorem dX9_init_37 : decode cX9_init 37 = .ok (.aload_n 0, 1) := by decide +kernel
theorem dX9_init_38 : decode cX9_init 38 = .ok (.new 30, 3) := by decide +kernel
theorem dX9_init_41 : decode cX9_init 41 = .ok (.dup, 1) := by decide +kernel
theorem dX9_init_42 : decode cX9_init 42 = .ok (.invokespecial 32, 3) := by decide +kernel
theorem dX9_init_45 : decode cX9_init 45 = .ok (.putfield 33, 3) := by decide +kernel
theorem dX9_init_48 : decode cX9_init 48 = .ok (.aload_n 0, 1) := by decide +kernel
theorem dX9_init_49 : decode cX9_init 49 = .ok (.new 37, 3) := by decide +kernel
theorem dX9_init_52 : decode cX9_init 52 = .ok (.dup, 1) := by decide +kernel
theorem dX9_init_53 : decode cX9_init 53 = .ok (.invokespecial 39, 3) := by decide +kernel
theorem dX9_init_56 : decode cX9_init 56 = .ok (.putfield 40, 3) := by decide +kernel
theorem dX9_init_59 : decode cX9_init 59 = .ok (.aload_n 0, 1) := by decide +kernel
theorem dX9_init_60 : decode cX9_init 60 = .ok (.new 44, 3) := by decide +kernel
theorem dX9_init_63 : decode cX9_init 63 = .ok (.dup, 1) := by decide +kernel
theorem dX9_init_64 : decode cX9_init 64 = .ok (.invokespecial 46, 3) := by decide +kernel
theorem dX9_init_67 : decode cX9_init 67 = .ok (.putfield 47, 3) := by decide +kernel
theorem dX9_init_70 : decode cX9_init 70 = .ok (.aload_n 0, 1) := by decide +kernel
theorem dX9_init_71 : decode cX9_init 71 = .ok (.new 51, 3) := by decide +kernel
theorem dX9_init_74 : decode cX9_init 74 = .ok (.dup, 1) := by decide +kernel
theorem dX9_init_75 : decode cX9_init 75 = .ok (.invokespecial 53, 3) := by decide +kernel
theorem dX9_init_78 : decode cX9_init 78 = .ok (.putfield 54, 3) := by decide +kernel
theorem dX9_init_81 : decode cX9_init 81 = .ok (.aload_n 0, 1) := by decide +kernel
theorem dX9_init_82 : decode cX9_init 82 = .ok (.iconst 2, 1) := by decide +kernel
theorem dX9_init_83 : decode cX9_init 83 = .ok (.anewarray 58, 3) := by decide +kernel
theorem dX9_init_86 : decode cX9_init 86 = .ok (.putfield 60, 3) := by decide +kernel
theorem dX9_init_89 : decode cX9_init 89 = .ok (.iconst 0, 1) := by decide +kernel
theorem dX9_init_90 : decode cX9_init 90 = .ok (.istore_n 1, 1) := by decide +kernel
theorem dX9_init_91 : decode cX9_init 91 = .ok (.iload_n 1, 1) := by decide +kernel
theorem dX9_init_92 : decode cX9_init 92 = .ok (.aload_n 0, 1) := by decide +kernel
theorem dX9_init_93 : decode cX9_init 93 = .ok (.getfield 60, 3) := by decide +kernel
theorem dX9_init_96 : decode cX9_init 96 = .ok (.arraylength, 1) := by decide +kernel
theorem dX9_init_97 : decode cX9_init 97 = .ok (.if_icmp .ge 22, 3) := by decide +kernel
theorem dX9_init_100 : decode cX9_init 100 = .ok (.aload_n 0, 1) := by decide +kernel
theorem dX9_init_101 : decode cX9_init 101 = .ok (.getfield 60, 3) := by decide +kernel
theorem dX9_init_104 : decode cX9_init 104 = .ok (.iload_n 1, 1) := by decide +kernel
theorem dX9_init_105 : decode cX9_init 105 = .ok (.new 58, 3) := by decide +kernel
theorem dX9_init_108 : decode cX9_init 108 = .ok (.dup, 1) := by decide +kernel
theorem dX9_init_109 : decode cX9_init 109 = .ok (.invokespecial 64, 3) := by decide +kernel
theorem dX9_init_112 : decode cX9_init 112 = .ok (.aastore, 1) := by decide +kernel
theorem dX9_init_113 : decode cX9_init 113 = .ok (.iinc 1 1, 3) := by decide +kernel
theorem dX9_init_116 : decode cX9_init 116 = .ok (.goto (-25), 3) := by decide +kernel
theorem dX9_init_119 : decode cX9_init 119 = .ok (.return_, 1) := by decide +kernel
theorem dX9_one_0 : decode cX9_one 0 = .ok (.iload_n 1, 1) := by decide +kernel
theorem dX9_one_1 : decode cX9_one 1 = .ok (.iconst 0, 1) := by decide +kernel
theorem dX9_one_2 : decode cX9_one 2 = .ok (.iconst 5, 1) := by decide +kernel
theorem dX9_one_3 : decode cX9_one 3 = .ok (.invokestatic 65, 3) := by decide +kernel
theorem dX9_one_6 : decode cX9_one 6 = .ok (.ifCond .ne 5, 3) := by decide +kernel
theorem dX9_one_9 : decode cX9_one 9 = .ok (.iconst (-1), 1) := by decide +kernel
theorem dX9_one_10 : decode cX9_one 10 = .ok (.ireturn, 1) := by decide +kernel
theorem dX9_one_11 : decode cX9_one 11 = .ok (.iload_n 2, 1) := by decide +kernel
theorem dX9_one_12 : decode cX9_one 12 = .ok (.iconst 0, 1) := by decide +kernel
theorem dX9_one_13 : decode cX9_one 13 = .ok (.bipush 99, 2) := by decide +kernel
theorem dX9_one_15 : decode cX9_one 15 = .ok (.invokestatic 65, 3) := by decide +kernel
theorem dX9_one_18 : decode cX9_one 18 = .ok (.ifCond .eq 23, 3) := by decide +kernel
theorem dX9_one_21 : decode cX9_one 21 = .ok (.iload_n 3, 1) := by decide +kernel
theorem dX9_one_22 : decode cX9_one 22 = .ok (.iconst 1, 1) := by decide +kernel
theorem dX9_one_23 : decode cX9_one 23 = .ok (.bipush 9, 2) := by decide +kernel
theorem dX9_one_25 : decode cX9_one 25 = .ok (.invokestatic 65, 3) := by decide +kernel
theorem dX9_one_28 : decode cX9_one 28 = .ok (.ifCond .eq 13, 3) := by decide +kernel
theorem dX9_one_31 : decode cX9_one 31 = .ok (.iload 4, 2) := by decide +kernel
theorem dX9_one_33 : decode cX9_one 33 = .ok (.iconst 0, 1) := by decide +kernel
theorem dX9_one_34 : decode cX9_one 34 = .ok (.iload_n 2, 1) := by decide +kernel
theorem dX9_one_35 : decode cX9_one 35 = .ok (.invokestatic 65, 3) := by decide +kernel
theorem dX9_one_38 : decode cX9_one 38 = .ok (.ifCond .ne 6, 3) := by decide +kernel
theorem dX9_one_41 : decode cX9_one 41 = .ok (.bipush (-2), 2) := by decide +kernel
theorem dX9_one_43 : decode cX9_one 43 = .ok (.ireturn, 1) := by decide +kernel
theorem dX9_one_44 : decode cX9_one 44 = .ok (.aload_n 0, 1) := by decide +kernel
theorem dX9_one_45 : decode cX9_one 45 = .ok (.getfield 12, 3) := by decide +kernel
theorem dX9_one_48 : decode cX9_one 48 = .ok (.iload_n 1, 1) := by decide +kernel
theorem dX9_one_49 : decode cX9_one 49 = .ok (.iload_n 2, 1) := by decide +kernel
theorem dX9_one_50 : decode cX9_one 50 = .ok (.iload_n 3, 1) := by decide +kernel
theorem dX9_one_51 : decode cX9_one 51 = .ok (.iload 4, 2) := by decide +kernel
theorem dX9_one_53 : decode cX9_one 53 = .ok (.invokevirtual 69, 3) := by decide +kernel
theorem dX9_one_56 : decode cX9_one 56 = .ok (.aload_n 0, 1) := by decide +kernel
theorem dX9_one_57 : decode cX9_one 57 = .ok (.getfield 12, 3) := by decide +kernel
theorem dX9_one_60 : decode cX9_one 60 = .ok (.invokevirtual 73, 3) := by decide +kernel
theorem dX9_one_63 : decode cX9_one 63 = .ok (.ireturn, 1) := by decide +kernel
theorem dX9_leave_0 : decode cX9_leave 0 = .ok (.aload_n 0, 1) := by decide +kernel
theorem dX9_leave_1 : decode cX9_leave 1 = .ok (.getfield 12, 3) := by decide +kernel
theorem dX9_leave_4 : decode cX9_leave 4 = .ok (.iload_n 1, 1) := by decide +kernel
theorem dX9_leave_5 : decode cX9_leave 5 = .ok (.invokevirtual 77, 3) := by decide +kernel
theorem dX9_leave_8 : decode cX9_leave 8 = .ok (.ifCond .ne 5, 3) := by decide +kernel
theorem dX9_leave_11 : decode cX9_leave 11 = .ok (.iconst (-1), 1) := by decide +kernel
theorem dX9_leave_12 : decode cX9_leave 12 = .ok (.ireturn, 1) := by decide +kernel
theorem dX9_leave_13 : decode cX9_leave 13 = .ok (.aload_n 0, 1) := by decide +kernel
theorem dX9_leave_14 : decode cX9_leave 14 = .ok (.getfield 12, 3) := by decide +kernel
theorem dX9_leave_17 : decode cX9_leave 17 = .ok (.iload_n 1, 1) := by decide +kernel
theorem dX9_leave_18 : decode cX9_leave 18 = .ok (.invokevirtual 81, 3) := by decide +kernel
theorem dX9_leave_21 : decode cX9_leave 21 = .ok (.aload_n 0, 1) := by decide +kernel
theorem dX9_leave_22 : decode cX9_leave 22 = .ok (.getfield 12, 3) := by decide +kernel
theorem dX9_leave_25 : decode cX9_leave 25 = .ok (.invokevirtual 73, 3) := by decide +kernel
theorem dX9_leave_28 : decode cX9_leave 28 = .ok (.ireturn, 1) := by decide +kernel
theorem dX9_set_0 : decode cX9_set 0 = .ok (.iload_n 1, 1) := by decide +kernel
theorem dX9_set_1 : decode cX9_set 1 = .ok (.ifCond .ne 32, 3) := by decide +kernel
theorem dX9_set_4 : decode cX9_set 4 = .ok (.iload_n 2, 1) := by decide +kernel
theorem dX9_set_5 : decode cX9_set 5 = .ok (.iconst 0, 1) := by decide +kernel
theorem dX9_set_6 : decode cX9_set 6 = .ok (.bipush 99, 2) := by decide +kernel
theorem dX9_set_8 : decode cX9_set 8 = .ok (.invokestatic 65, 3) := by decide +kernel
theorem dX9_set_11 : decode cX9_set 11 = .ok (.ifCond .eq 22, 3) := by decide +kernel
theorem dX9_set_14 : decode cX9_set 14 = .ok (.aload_n 0, 1) := by decide +kernel
theorem dX9_set_15 : decode cX9_set 15 = .ok (.getfield 12, 3) := by decide +kernel
theorem dX9_set_18 : decode cX9_set 18 = .ok (.getfield 85, 3) := by decide +kernel
theorem dX9_set_21 : decode cX9_set 21 = .ok (.istore_n 3, 1) := by decide +kernel
theorem dX9_set_22 : decode cX9_set 22 = .ok (.aload_n 0, 1) := by decide +kernel
theorem dX9_set_23 : decode cX9_set 23 = .ok (.getfield 12, 3) := by decide +kernel
theorem dX9_set_26 : decode cX9_set 26 = .ok (.iload_n 2, 1) := by decide +kernel
theorem dX9_set_27 : decode cX9_set 27 = .ok (.putfield 85, 3) := by decide +kernel
theorem dX9_set_30 : decode cX9_set 30 = .ok (.goto 73, 3) := by decide +kernel
theorem dX9_set_33 : decode cX9_set 33 = .ok (.iload_n 1, 1) := by decide +kernel
theorem dX9_set_34 : decode cX9_set 34 = .ok (.iconst 1, 1) := by decide +kernel
theorem dX9_set_35 : decode cX9_set 35 = .ok (.if_icmp .ne 32, 3) := by decide +kernel
theorem dX9_set_38 : decode cX9_set 38 = .ok (.iload_n 2, 1) := by decide +kernel
theorem dX9_set_39 : decode cX9_set 39 = .ok (.iconst 0, 1) := by decide +kernel
theorem dX9_set_40 : decode cX9_set 40 = .ok (.bipush 40, 2) := by decide +kernel
theorem dX9_set_42 : decode cX9_set 42 = .ok (.invokestatic 65, 3) := by decide +kernel
theorem dX9_set_45 : decode cX9_set 45 = .ok (.ifCond .eq 22, 3) := by decide +kernel
theorem dX9_set_48 : decode cX9_set 48 = .ok (.aload_n 0, 1) := by decide +kernel
theorem dX9_set_49 : decode cX9_set 49 = .ok (.getfield 12, 3) := by decide +kernel
theorem dX9_set_52 : decode cX9_set 52 = .ok (.getfield 89, 3) := by decide +kernel
theorem dX9_set_55 : decode cX9_set 55 = .ok (.istore_n 3, 1) := by decide +kernel
theorem dX9_set_56 : decode cX9_set 56 = .ok (.aload_n 0, 1) := by decide +kernel
theorem dX9_set_57 : decode cX9_set 57 = .ok (.getfield 12, 3) := by decide +kernel
theorem dX9_set_60 : decode cX9_set 60 = .ok (.iload_n 2, 1) := by decide +kernel
theorem dX9_set_61 : decode cX9_set 61 = .ok (.putfield 89, 3) := by decide +kernel
theorem dX9_set_64 : decode cX9_set 64 = .ok (.goto 39, 3) := by decide +kernel
theorem dX9_set_67 : decode cX9_set 67 = .ok (.iload_n 1, 1) := by decide +kernel
theorem dX9_set_68 : decode cX9_set 68 = .ok (.iconst 2, 1) := by decide +kernel
theorem dX9_set_69 : decode cX9_set 69 = .ok (.if_icmp .ne 31, 3) := by decide +kernel
theorem dX9_set_72 : decode cX9_set 72 = .ok (.iload_n 2, 1) := by decide +kernel
theorem dX9_set_73 : decode cX9_set 73 = .ok (.iconst 0, 1) := by decide +kernel
theorem dX9_set_74 : decode cX9_set 74 = .ok (.iconst 1, 1) := by decide +kernel
theorem dX9_set_75 : decode cX9_set 75 = .ok (.invokestatic 65, 3) := by decide +kernel
theorem dX9_set_78 : decode cX9_set 78 = .ok (.ifCond .eq 22, 3) := by decide +kernel
theorem dX9_set_81 : decode cX9_set 81 = .ok (.aload_n 0, 1) := by decide +kernel
theorem dX9_set_82 : decode cX9_set 82 = .ok (.getfield 12, 3) := by decide +kernel
theorem dX9_set_85 : decode cX9_set 85 = .ok (.getfield 92, 3) := by decide +kernel
theorem dX9_set_88 : decode cX9_set 88 = .ok (.istore_n 3, 1) := by decide +kernel
theorem dX9_set_89 : decode cX9_set 89 = .ok (.aload_n 0, 1) := by decide +kernel
theorem dX9_set_90 : decode cX9_set 90 = .ok (.getfield 12, 3) := by decide +kernel
theorem dX9_set_93 : decode cX9_set 93 = .ok (.iload_n 2, 1) := by decide +kernel
theorem dX9_set_94 : decode cX9_set 94 = .ok (.putfield 92, 3) := by decide +kernel
theorem dX9_set_97 : decode cX9_set 97 = .ok (.goto 6, 3) := by decide +kernel
theorem dX9_set_100 : decode cX9_set 100 = .ok (.bipush (-2), 2) := by decide +kernel
theorem dX9_set_102 : decode cX9_set 102 = .ok (.ireturn, 1) := by decide +kernel
theorem dX9_set_103 : decode cX9_set 103 = .ok (.iload_n 3, 1) := by decide +kernel
theorem dX9_set_104 : decode cX9_set 104 = .ok (.ireturn, 1) := by decide +kernel
theorem dX9_say_0 : decode cX9_say 0 = .ok (.iload_n 1, 1) := by decide +kernel
theorem dX9_say_1 : decode cX9_say 1 = .ok (.bipush 33, 2) := by decide +kernel
theorem dX9_say_3 : decode cX9_say 3 = .ok (.bipush 126, 2) := by decide +kernel
theorem dX9_say_5 : decode cX9_say 5 = .ok (.invokestatic 65, 3) := by decide +kernel
theorem dX9_say_8 : decode cX9_say 8 = .ok (.ifCond .ne 6, 3) := by decide +kernel
theorem dX9_say_11 : decode cX9_say 11 = .ok (.bipush (-2), 2) := by decide +kernel
theorem dX9_say_13 : decode cX9_say 13 = .ok (.ireturn, 1) := by decide +kernel
theorem dX9_say_14 : decode cX9_say 14 = .ok (.aload_n 0, 1) := by decide +kernel
theorem dX9_say_15 : decode cX9_say 15 = .ok (.getfield 19, 3) := by decide +kernel
theorem dX9_say_18 : decode cX9_say 18 = .ok (.iload_n 1, 1) := by decide +kernel
theorem dX9_say_19 : decode cX9_say 19 = .ok (.invokevirtual 95, 3) := by decide +kernel
theorem dX9_say_22 : decode cX9_say 22 = .ok (.ifCond .eq 13, 3) := by decide +kernel
theorem dX9_say_25 : decode cX9_say 25 = .ok (.aload_n 0, 1) := by decide +kernel
theorem dX9_say_26 : decode cX9_say 26 = .ok (.getfield 19, 3) := by decide +kernel
theorem dX9_say_29 : decode cX9_say 29 = .ok (.getfield 98, 3) := by decide +kernel
theorem dX9_say_32 : decode cX9_say 32 = .ok (.goto 5, 3) := by decide +kernel
theorem dX9_say_35 : decode cX9_say 35 = .ok (.bipush (-4), 2) := by decide +kernel
theorem dX9_say_37 : decode cX9_say 37 = .ok (.ireturn, 1) := by decide +kernel
theorem dX9_wipe_0 : decode cX9_wipe 0 = .ok (.aload_n 0, 1) := by decide +kernel
theorem dX9_wipe_1 : decode cX9_wipe 1 = .ok (.getfield 19, 3) := by decide +kernel
theorem dX9_wipe_4 : decode cX9_wipe 4 = .ok (.getfield 98, 3) := by decide +kernel
theorem dX9_wipe_7 : decode cX9_wipe 7 = .ok (.istore_n 1, 1) := by decide +kernel
theorem dX9_wipe_8 : decode cX9_wipe 8 = .ok (.aload_n 0, 1) := by decide +kernel
theorem dX9_wipe_9 : decode cX9_wipe 9 = .ok (.getfield 19, 3) := by decide +kernel
theorem dX9_wipe_12 : decode cX9_wipe 12 = .ok (.iconst 0, 1) := by decide +kernel
theorem dX9_wipe_13 : decode cX9_wipe 13 = .ok (.putfield 98, 3) := by decide +kernel
theorem dX9_wipe_16 : decode cX9_wipe 16 = .ok (.iload_n 1, 1) := by decide +kernel
theorem dX9_wipe_17 : decode cX9_wipe 17 = .ok (.ireturn, 1) := by decide +kernel
theorem dX9_fault_0 : decode cX9_fault 0 = .ok (.aload_n 0, 1) := by decide +kernel
theorem dX9_fault_1 : decode cX9_fault 1 = .ok (.getfield 19, 3) := by decide +kernel
theorem dX9_fault_4 : decode cX9_fault 4 = .ok (.invokevirtual 101, 3) := by decide +kernel
theorem dX9_fault_7 : decode cX9_fault 7 = .ok (.ireturn, 1) := by decide +kernel
theorem dX9_judge_0 : decode cX9_judge 0 = .ok (.iload_n 1, 1) := by decide +kernel
theorem dX9_judge_1 : decode cX9_judge 1 = .ok (.iconst 0, 1) := by decide +kernel
theorem dX9_judge_2 : decode cX9_judge 2 = .ok (.iconst 2, 1) := by decide +kernel
theorem dX9_judge_3 : decode cX9_judge 3 = .ok (.invokestatic 65, 3) := by decide +kernel
theorem dX9_judge_6 : decode cX9_judge 6 = .ok (.ifCond .ne 6, 3) := by decide +kernel
theorem dX9_judge_9 : decode cX9_judge 9 = .ok (.bipush (-2), 2) := by decide +kernel
theorem dX9_judge_11 : decode cX9_judge 11 = .ok (.ireturn, 1) := by decide +kernel
theorem dX9_judge_12 : decode cX9_judge 12 = .ok (.aload_n 0, 1) := by decide +kernel
theorem dX9_judge_13 : decode cX9_judge 13 = .ok (.invokevirtual 104, 3) := by decide +kernel
theorem dX9_judge_16 : decode cX9_judge 16 = .ok (.istore_n 2, 1) := by decide +kernel
theorem dX9_judge_17 : decode cX9_judge 17 = .ok (.iload_n 2, 1) := by decide +kernel
theorem dX9_judge_18 : decode cX9_judge 18 = .ok (.bipush (-5), 2) := by decide +kernel
theorem dX9_judge_20 : decode cX9_judge 20 = .ok (.if_icmp .eq 14, 3) := by decide +kernel
theorem dX9_judge_23 : decode cX9_judge 23 = .ok (.iload_n 1, 1) := by decide +kernel
theorem dX9_judge_24 : decode cX9_judge 24 = .ok (.iconst 2, 1) := by decide +kernel
theorem dX9_judge_25 : decode cX9_judge 25 = .ok (.if_icmp .ne 11, 3) := by decide +kernel
theorem dX9_judge_28 : decode cX9_judge 28 = .ok (.iload_n 2, 1) := by decide +kernel
theorem dX9_judge_29 : decode cX9_judge 29 = .ok (.bipush (-3), 2) := by decide +kernel
theorem dX9_judge_31 : decode cX9_judge 31 = .ok (.if_icmp .ne 5, 3) := by decide +kernel
theorem dX9_judge_34 : decode cX9_judge 34 = .ok (.iload_n 2, 1) := by decide +kernel
theorem dX9_judge_35 : decode cX9_judge 35 = .ok (.ireturn, 1) := by decide +kernel
theorem dX9_judge_36 : decode cX9_judge 36 = .ok (.iload_n 1, 1) := by decide +kernel
theorem dX9_judge_37 : decode cX9_judge 37 = .ok (.iconst 2, 1) := by decide +kernel
theorem dX9_judge_38 : decode cX9_judge 38 = .ok (.if_icmp .ne 11, 3) := by decide +kernel
theorem dX9_judge_41 : decode cX9_judge 41 = .ok (.aload_n 0, 1) := by decide +kernel
theorem dX9_judge_42 : decode cX9_judge 42 = .ok (.getfield 26, 3) := by decide +kernel
theorem dX9_judge_45 : decode cX9_judge 45 = .ok (.getfield 107, 3) := by decide +kernel
theorem dX9_judge_48 : decode cX9_judge 48 = .ok (.ireturn, 1) := by decide +kernel
theorem dX9_judge_49 : decode cX9_judge 49 = .ok (.iload_n 1, 1) := by decide +kernel
theorem dX9_judge_50 : decode cX9_judge 50 = .ok (.ifCond .ne 13, 3) := by decide +kernel
theorem dX9_judge_53 : decode cX9_judge 53 = .ok (.aload_n 0, 1) := by decide +kernel
theorem dX9_judge_54 : decode cX9_judge 54 = .ok (.getfield 26, 3) := by decide +kernel
theorem dX9_judge_57 : decode cX9_judge 57 = .ok (.getfield 110, 3) := by decide +kernel
theorem dX9_judge_60 : decode cX9_judge 60 = .ok (.goto 10, 3) := by decide +kernel
theorem dX9_judge_63 : decode cX9_judge 63 = .ok (.aload_n 0, 1) := by decide +kernel
theorem dX9_judge_64 : decode cX9_judge 64 = .ok (.getfield 26, 3) := by decide +kernel
theorem dX9_judge_67 : decode cX9_judge 67 = .ok (.getfield 113, 3) := by decide +kernel
theorem dX9_judge_70 : decode cX9_judge 70 = .ok (.ireturn, 1) := by decide +kernel
theorem dX9_behind_0 : decode cX9_behind 0 = .ok (.iload_n 2, 1) := by decide +kernel
theorem dX9_behind_1 : decode cX9_behind 1 = .ok (.iconst 0, 1) := by decide +kernel
theorem dX9_behind_2 : decode cX9_behind 2 = .ok (.iconst 1, 1) := by decide +kernel
theorem dX9_behind_3 : decode cX9_behind 3 = .ok (.invokestatic 65, 3) := by decide +kernel
theorem dX9_behind_6 : decode cX9_behind 6 = .ok (.ifCond .ne 6, 3) := by decide +kernel
theorem dX9_behind_9 : decode cX9_behind 9 = .ok (.bipush (-2), 2) := by decide +kernel
theorem dX9_behind_11 : decode cX9_behind 11 = .ok (.ireturn, 1) := by decide +kernel
theorem dX9_behind_12 : decode cX9_behind 12 = .ok (.aload_n 0, 1) := by decide +kernel
theorem dX9_behind_13 : decode cX9_behind 13 = .ok (.invokevirtual 104, 3) := by decide +kernel
theorem dX9_behind_16 : decode cX9_behind 16 = .ok (.istore_n 3, 1) := by decide +kernel
theorem dX9_behind_17 : decode cX9_behind 17 = .ok (.iload_n 3, 1) := by decide +kernel
theorem dX9_behind_18 : decode cX9_behind 18 = .ok (.ifCond .eq 5, 3) := by decide +kernel
theorem dX9_behind_21 : decode cX9_behind 21 = .ok (.iload_n 3, 1) := by decide +kernel
theorem dX9_behind_22 : decode cX9_behind 22 = .ok (.ireturn, 1) := by decide +kernel
theorem dX9_behind_23 : decode cX9_behind 23 = .ok (.aload_n 0, 1) := by decide +kernel
theorem dX9_behind_24 : decode cX9_behind 24 = .ok (.getfield 26, 3) := by decide +kernel
theorem dX9_behind_27 : decode cX9_behind 27 = .ok (.getfield 116, 3) := by decide +kernel
theorem dX9_behind_30 : decode cX9_behind 30 = .ok (.iload_n 1, 1) := by decide +kernel
theorem dX9_behind_31 : decode cX9_behind 31 = .ok (.invokevirtual 77, 3) := by decide +kernel
theorem dX9_behind_34 : decode cX9_behind 34 = .ok (.ifCond .ne 5, 3) := by decide +kernel
theorem dX9_behind_37 : decode cX9_behind 37 = .ok (.iconst (-1), 1) := by decide +kernel
theorem dX9_behind_38 : decode cX9_behind 38 = .ok (.ireturn, 1) := by decide +kernel
theorem dX9_behind_39 : decode cX9_behind 39 = .ok (.iload_n 2, 1) := by decide +kernel
theorem dX9_behind_40 : decode cX9_behind 40 = .ok (.ifCond .ne 18, 3) := by decide +kernel
theorem dX9_behind_43 : decode cX9_behind 43 = .ok (.aload_n 0, 1) := by decide +kernel
theorem dX9_behind_44 : decode cX9_behind 44 = .ok (.getfield 26, 3) := by decide +kernel
theorem dX9_behind_47 : decode cX9_behind 47 = .ok (.getfield 116, 3) := by decide +kernel
theorem dX9_behind_50 : decode cX9_behind 50 = .ok (.getfield 119, 3) := by decide +kernel
theorem dX9_behind_53 : decode cX9_behind 53 = .ok (.iload_n 1, 1) := by decide +kernel
theorem dX9_behind_54 : decode cX9_behind 54 = .ok (.iaload, 1) := by decide +kernel
theorem dX9_behind_55 : decode cX9_behind 55 = .ok (.goto 15, 3) := by decide +kernel
theorem dX9_behind_58 : decode cX9_behind 58 = .ok (.aload_n 0, 1) := by decide +kernel
theorem dX9_behind_59 : decode cX9_behind 59 = .ok (.getfield 26, 3) := by decide +kernel
theorem dX9_behind_62 : decode cX9_behind 62 = .ok (.getfield 116, 3) := by decide +kernel
theorem dX9_behind_65 : decode cX9_behind 65 = .ok (.getfield 123, 3) := by decide +kernel
theorem dX9_behind_68 : decode cX9_behind 68 = .ok (.iload_n 1, 1) := by decide +kernel
theorem dX9_behind_69 : decode cX9_behind 69 = .ok (.iaload, 1) := by decide +kernel
theorem dX9_behind_70 : decode cX9_behind 70 = .ok (.ireturn, 1) := by decide +kernel
theorem dX9_basket_0 : decode cX9_basket 0 = .ok (.aload_n 0, 1) := by decide +kernel
theorem dX9_basket_1 : decode cX9_basket 1 = .ok (.invokevirtual 104, 3) := by decide +kernel
theorem dX9_basket_4 : decode cX9_basket 4 = .ok (.istore_n 1, 1) := by decide +kernel
theorem dX9_basket_5 : decode cX9_basket 5 = .ok (.iload_n 1, 1) := by decide +kernel
theorem dX9_basket_6 : decode cX9_basket 6 = .ok (.ifCond .eq 7, 3) := by decide +kernel
theorem dX9_basket_9 : decode cX9_basket 9 = .ok (.iload_n 1, 1) := by decide +kernel
theorem dX9_basket_10 : decode cX9_basket 10 = .ok (.goto 13, 3) := by decide +kernel
theorem dX9_basket_13 : decode cX9_basket 13 = .ok (.aload_n 0, 1) := by decide +kernel
theorem dX9_basket_14 : decode cX9_basket 14 = .ok (.getfield 26, 3) := by decide +kernel
theorem dX9_basket_17 : decode cX9_basket 17 = .ok (.getfield 116, 3) := by decide +kernel
theorem dX9_basket_20 : decode cX9_basket 20 = .ok (.getfield 85, 3) := by decide +kernel
theorem dX9_basket_23 : decode cX9_basket 23 = .ok (.ireturn, 1) := by decide +kernel
theorem dX9_passed_0 : decode cX9_passed 0 = .ok (.iload_n 1, 1) := by decide +kernel
theorem dX9_passed_1 : decode cX9_passed 1 = .ok (.iconst 0, 1) := by decide +kernel
theorem dX9_passed_2 : decode cX9_passed 2 = .ok (.iconst 1, 1) := by decide +kernel
theorem dX9_passed_3 : decode cX9_passed 3 = .ok (.invokestatic 65, 3) := by decide +kernel
theorem dX9_passed_6 : decode cX9_passed 6 = .ok (.ifCond .ne 6, 3) := by decide +kernel
theorem dX9_passed_9 : decode cX9_passed 9 = .ok (.bipush (-2), 2) := by decide +kernel
theorem dX9_passed_11 : decode cX9_passed 11 = .ok (.ireturn, 1) := by decide +kernel
theorem dX9_passed_12 : decode cX9_passed 12 = .ok (.aload_n 0, 1) := by decide +kernel
theorem dX9_passed_13 : decode cX9_passed 13 = .ok (.invokevirtual 104, 3) := by decide +kernel
theorem dX9_passed_16 : decode cX9_passed 16 = .ok (.istore_n 2, 1) := by decide +kernel
theorem dX9_passed_17 : decode cX9_passed 17 = .ok (.iload_n 2, 1) := by decide +kernel
theorem dX9_passed_18 : decode cX9_passed 18 = .ok (.ifCond .eq 5, 3) := by decide +kernel
theorem dX9_passed_21 : decode cX9_passed 21 = .ok (.iload_n 2, 1) := by decide +kernel
theorem dX9_passed_22 : decode cX9_passed 22 = .ok (.ireturn, 1) := by decide +kernel
theorem dX9_passed_23 : decode cX9_passed 23 = .ok (.iload_n 1, 1) := by decide +kernel
theorem dX9_passed_24 : decode cX9_passed 24 = .ok (.ifCond .ne 13, 3) := by decide +kernel
theorem dX9_passed_27 : decode cX9_passed 27 = .ok (.aload_n 0, 1) := by decide +kernel
theorem dX9_passed_28 : decode cX9_passed 28 = .ok (.getfield 26, 3) := by decide +kernel
theorem dX9_passed_31 : decode cX9_passed 31 = .ok (.getfield 126, 3) := by decide +kernel
theorem dX9_passed_34 : decode cX9_passed 34 = .ok (.goto 10, 3) := by decide +kernel
theorem dX9_passed_37 : decode cX9_passed 37 = .ok (.aload_n 0, 1) := by decide +kernel
theorem dX9_passed_38 : decode cX9_passed 38 = .ok (.getfield 26, 3) := by decide +kernel
theorem dX9_passed_41 : decode cX9_passed 41 = .ok (.getfield 129, 3) := by decide +kernel
theorem dX9_passed_44 : decode cX9_passed 44 = .ok (.ireturn, 1) := by decide +kernel
theorem dX9_oldest_0 : decode cX9_oldest 0 = .ok (.aload_n 0, 1) := by decide +kernel
theorem dX9_oldest_1 : decode cX9_oldest 1 = .ok (.invokevirtual 104, 3) := by decide +kernel
theorem dX9_oldest_4 : decode cX9_oldest 4 = .ok (.istore_n 2, 1) := by decide +kernel
theorem dX9_oldest_5 : decode cX9_oldest 5 = .ok (.iload_n 2, 1) := by decide +kernel
theorem dX9_oldest_6 : decode cX9_oldest 6 = .ok (.ifCond .eq 5, 3) := by decide +kernel
theorem dX9_oldest_9 : decode cX9_oldest 9 = .ok (.iload_n 2, 1) := by decide +kernel
theorem dX9_oldest_10 : decode cX9_oldest 10 = .ok (.ireturn, 1) := by decide +kernel
theorem dX9_oldest_11 : decode cX9_oldest 11 = .ok (.iload_n 1, 1) := by decide +kernel
theorem dX9_oldest_12 : decode cX9_oldest 12 = .ok (.iconst 0, 1) := by decide +kernel
theorem dX9_oldest_13 : decode cX9_oldest 13 = .ok (.aload_n 0, 1) := by decide +kernel
theorem dX9_oldest_14 : decode cX9_oldest 14 = .ok (.getfield 26, 3) := by decide +kernel
theorem dX9_oldest_17 : decode cX9_oldest 17 = .ok (.getfield 107, 3) := by decide +kernel
theorem dX9_oldest_20 : decode cX9_oldest 20 = .ok (.iconst 1, 1) := by decide +kernel
theorem dX9_oldest_21 : decode cX9_oldest 21 = .ok (.isub, 1) := by decide +kernel
theorem dX9_oldest_22 : decode cX9_oldest 22 = .ok (.invokestatic 65, 3) := by decide +kernel
theorem dX9_oldest_25 : decode cX9_oldest 25 = .ok (.ifCond .eq 15, 3) := by decide +kernel
theorem dX9_oldest_28 : decode cX9_oldest 28 = .ok (.aload_n 0, 1) := by decide +kernel
theorem dX9_oldest_29 : decode cX9_oldest 29 = .ok (.getfield 26, 3) := by decide +kernel
theorem dX9_oldest_32 : decode cX9_oldest 32 = .ok (.getfield 132, 3) := by decide +kernel
theorem dX9_oldest_35 : decode cX9_oldest 35 = .ok (.iload_n 1, 1) := by decide +kernel
theorem dX9_oldest_36 : decode cX9_oldest 36 = .ok (.iaload, 1) := by decide +kernel
theorem dX9_oldest_37 : decode cX9_oldest 37 = .ok (.goto 4, 3) := by decide +kernel
theorem dX9_oldest_40 : decode cX9_oldest 40 = .ok (.iconst (-1), 1) := by decide +kernel
theorem dX9_oldest_41 : decode cX9_oldest 41 = .ok (.ireturn, 1) := by decide +kernel
theorem dX9_done_0 : decode cX9_done 0 = .ok (.aload_n 0, 1) := by decide +kernel
theorem dX9_done_1 : decode cX9_done 1 = .ok (.invokevirtual 104, 3) := by decide +kernel
theorem dX9_done_4 : decode cX9_done 4 = .ok (.istore_n 1, 1) := by decide +kernel
theorem dX9_done_5 : decode cX9_done 5 = .ok (.iload_n 1, 1) := by decide +kernel
theorem dX9_done_6 : decode cX9_done 6 = .ok (.ifCond .eq 5, 3) := by decide +kernel
theorem dX9_done_9 : decode cX9_done 9 = .ok (.iload_n 1, 1) := by decide +kernel
theorem dX9_done_10 : decode cX9_done 10 = .ok (.ireturn, 1) := by decide +kernel
theorem dX9_done_11 : decode cX9_done 11 = .ok (.aload_n 0, 1) := by decide +kernel
theorem dX9_done_12 : decode cX9_done 12 = .ok (.getfield 12, 3) := by decide +kernel
theorem dX9_done_15 : decode cX9_done 15 = .ok (.aload_n 0, 1) := by decide +kernel
theorem dX9_done_16 : decode cX9_done 16 = .ok (.getfield 26, 3) := by decide +kernel
theorem dX9_done_19 : decode cX9_done 19 = .ok (.getfield 116, 3) := by decide +kernel
theorem dX9_done_22 : decode cX9_done 22 = .ok (.invokevirtual 135, 3) := by decide +kernel
theorem dX9_done_25 : decode cX9_done 25 = .ok (.aload_n 0, 1) := by decide +kernel
theorem dX9_done_26 : decode cX9_done 26 = .ok (.getfield 19, 3) := by decide +kernel
theorem dX9_done_29 : decode cX9_done 29 = .ok (.iconst 0, 1) := by decide +kernel
theorem dX9_done_30 : decode cX9_done 30 = .ok (.putfield 98, 3) := by decide +kernel
theorem dX9_done_33 : decode cX9_done 33 = .ok (.aload_n 0, 1) := by decide +kernel
theorem dX9_done_34 : decode cX9_done 34 = .ok (.getfield 19, 3) := by decide +kernel
theorem dX9_done_37 : decode cX9_done 37 = .ok (.getfield 139, 3) := by decide +kernel
theorem dX9_done_40 : decode cX9_done 40 = .ok (.ireturn, 1) := by decide +kernel
theorem dX9_lasts_0 : decode cX9_lasts 0 = .ok (.aload_n 0, 1) := by decide +kernel
theorem dX9_lasts_1 : decode cX9_lasts 1 = .ok (.getfield 12, 3) := by decide +kernel
theorem dX9_lasts_4 : decode cX9_lasts 4 = .ok (.iload_n 1, 1) := by decide +kernel
theorem dX9_lasts_5 : decode cX9_lasts 5 = .ok (.invokevirtual 77, 3) := by decide +kernel
theorem dX9_lasts_8 : decode cX9_lasts 8 = .ok (.ifCond .ne 5, 3) := by decide +kernel
theorem dX9_lasts_11 : decode cX9_lasts 11 = .ok (.iconst (-1), 1) := by decide +kernel
theorem dX9_lasts_12 : decode cX9_lasts 12 = .ok (.ireturn, 1) := by decide +kernel
theorem dX9_lasts_13 : decode cX9_lasts 13 = .ok (.iload_n 2, 1) := by decide +kernel
theorem dX9_lasts_14 : decode cX9_lasts 14 = .ok (.iconst 0, 1) := by decide +kernel
theorem dX9_lasts_15 : decode cX9_lasts 15 = .ok (.bipush 99, 2) := by decide +kernel
theorem dX9_lasts_17 : decode cX9_lasts 17 = .ok (.invokestatic 65, 3) := by decide +kernel
theorem dX9_lasts_20 : decode cX9_lasts 20 = .ok (.ifCond .ne 6, 3) := by decide +kernel
theorem dX9_lasts_23 : decode cX9_lasts 23 = .ok (.bipush (-2), 2) := by decide +kernel
theorem dX9_lasts_25 : decode cX9_lasts 25 = .ok (.ireturn, 1) := by decide +kernel
theorem dX9_lasts_26 : decode cX9_lasts 26 = .ok (.iload_n 2, 1) := by decide +kernel
theorem dX9_lasts_27 : decode cX9_lasts 27 = .ok (.bipush 99, 2) := by decide +kernel
theorem dX9_lasts_29 : decode cX9_lasts 29 = .ok (.if_icmp .ne 6, 3) := by decide +kernel
theorem dX9_lasts_32 : decode cX9_lasts 32 = .ok (.bipush 100, 2) := by decide +kernel
theorem dX9_lasts_34 : decode cX9_lasts 34 = .ok (.ireturn, 1) := by decide +kernel
theorem dX9_lasts_35 : decode cX9_lasts 35 = .ok (.iload_n 2, 1) := by decide +kernel
theorem dX9_lasts_36 : decode cX9_lasts 36 = .ok (.aload_n 0, 1) := by decide +kernel
theorem dX9_lasts_37 : decode cX9_lasts 37 = .ok (.getfield 12, 3) := by decide +kernel
theorem dX9_lasts_40 : decode cX9_lasts 40 = .ok (.getfield 119, 3) := by decide +kernel
theorem dX9_lasts_43 : decode cX9_lasts 43 = .ok (.iload_n 1, 1) := by decide +kernel
theorem dX9_lasts_44 : decode cX9_lasts 44 = .ok (.iaload, 1) := by decide +kernel
theorem dX9_lasts_45 : decode cX9_lasts 45 = .ok (.isub, 1) := by decide +kernel
theorem dX9_lasts_46 : decode cX9_lasts 46 = .ok (.istore_n 3, 1) := by decide +kernel
theorem dX9_lasts_47 : decode cX9_lasts 47 = .ok (.aload_n 0, 1) := by decide +kernel
theorem dX9_lasts_48 : decode cX9_lasts 48 = .ok (.getfield 12, 3) := by decide +kernel
theorem dX9_lasts_51 : decode cX9_lasts 51 = .ok (.getfield 142, 3) := by decide +kernel
theorem dX9_lasts_54 : decode cX9_lasts 54 = .ok (.iload_n 1, 1) := by decide +kernel
theorem dX9_lasts_55 : decode cX9_lasts 55 = .ok (.iaload, 1) := by decide +kernel
theorem dX9_lasts_56 : decode cX9_lasts 56 = .ok (.istore 4, 2) := by decide +kernel
theorem dX9_lasts_58 : decode cX9_lasts 58 = .ok (.iload_n 3, 1) := by decide +kernel
theorem dX9_lasts_59 : decode cX9_lasts 59 = .ok (.ifCond .lt 9, 3) := by decide +kernel
theorem dX9_lasts_62 : decode cX9_lasts 62 = .ok (.iload 4, 2) := by decide +kernel
theorem dX9_lasts_64 : decode cX9_lasts 64 = .ok (.iconst 1, 1) := by decide +kernel
theorem dX9_lasts_65 : decode cX9_lasts 65 = .ok (.if_icmp .ge 8, 3) := by decide +kernel
theorem dX9_lasts_68 : decode cX9_lasts 68 = .ok (.bipush (-6), 2) := by decide +kernel
theorem dX9_lasts_70 : decode cX9_lasts 70 = .ok (.goto 7, 3) := by decide +kernel
theorem dX9_lasts_73 : decode cX9_lasts 73 = .ok (.iload_n 3, 1) := by decide +kernel
theorem dX9_lasts_74 : decode cX9_lasts 74 = .ok (.iload 4, 2) := by decide +kernel
theorem dX9_lasts_76 : decode cX9_lasts 76 = .ok (.idiv, 1) := by decide +kernel
theorem dX9_lasts_77 : decode cX9_lasts 77 = .ok (.ireturn, 1) := by decide +kernel
theorem dX9_keeps_0 : decode cX9_keeps 0 = .ok (.aload_n 0, 1) := by decide +kernel
theorem dX9_keeps_1 : decode cX9_keeps 1 = .ok (.iload_n 1, 1) := by decide +kernel
theorem dX9_keeps_2 : decode cX9_keeps 2 = .ok (.iload_n 2, 1) := by decide +kernel
theorem dX9_keeps_3 : decode cX9_keeps 3 = .ok (.iload_n 3, 1) := by decide +kernel
theorem dX9_keeps_4 : decode cX9_keeps 4 = .ok (.iload 4, 2) := by decide +kernel
theorem dX9_keeps_6 : decode cX9_keeps 6 = .ok (.invokevirtual 145, 3) := by decide +kernel
theorem dX9_keeps_9 : decode cX9_keeps 9 = .ok (.istore 5, 2) := by decide +kernel
theorem dX9_keeps_11 : decode cX9_keeps 11 = .ok (.iload 5, 2) := by decide +kernel
theorem dX9_keeps_13 : decode cX9_keeps 13 = .ok (.ifCond .eq 6, 3) := by decide +kernel
theorem dX9_keeps_16 : decode cX9_keeps 16 = .ok (.iload 5, 2) := by decide +kernel
theorem dX9_keeps_18 : decode cX9_keeps 18 = .ok (.ireturn, 1) := by decide +kernel
theorem dX9_keeps_19 : decode cX9_keeps 19 = .ok (.aload_n 0, 1) := by decide +kernel
theorem dX9_keeps_20 : decode cX9_keeps 20 = .ok (.getfield 33, 3) := by decide +kernel
theorem dX9_keeps_23 : decode cX9_keeps 23 = .ok (.aload_n 0, 1) := by decide +kernel
theorem dX9_keeps_24 : decode cX9_keeps 24 = .ok (.getfield 12, 3) := by decide +kernel
theorem dX9_keeps_27 : decode cX9_keeps 27 = .ok (.iload_n 1, 1) := by decide +kernel
theorem dX9_keeps_28 : decode cX9_keeps 28 = .ok (.iload_n 2, 1) := by decide +kernel
theorem dX9_keeps_29 : decode cX9_keeps 29 = .ok (.iload_n 3, 1) := by decide +kernel
theorem dX9_keeps_30 : decode cX9_keeps 30 = .ok (.iload 4, 2) := by decide +kernel
theorem dX9_keeps_32 : decode cX9_keeps 32 = .ok (.invokevirtual 149, 3) := by decide +kernel
theorem dX9_keeps_35 : decode cX9_keeps 35 = .ok (.ireturn, 1) := by decide +kernel
theorem dX9_plan_0 : decode cX9_plan 0 = .ok (.aload_n 0, 1) := by decide +kernel
theorem dX9_plan_1 : decode cX9_plan 1 = .ok (.iload_n 1, 1) := by decide +kernel
theorem dX9_plan_2 : decode cX9_plan 2 = .ok (.iload_n 2, 1) := by decide +kernel
theorem dX9_plan_3 : decode cX9_plan 3 = .ok (.iload_n 3, 1) := by decide +kernel
theorem dX9_plan_4 : decode cX9_plan 4 = .ok (.iload 4, 2) := by decide +kernel
theorem dX9_plan_6 : decode cX9_plan 6 = .ok (.invokevirtual 145, 3) := by decide +kernel
theorem dX9_plan_9 : decode cX9_plan 9 = .ok (.istore 7, 2) := by decide +kernel
theorem dX9_plan_11 : decode cX9_plan 11 = .ok (.iload 7, 2) := by decide +kernel
theorem dX9_plan_13 : decode cX9_plan 13 = .ok (.ifCond .eq 6, 3) := by decide +kernel
theorem dX9_plan_16 : decode cX9_plan 16 = .ok (.iload 7, 2) := by decide +kernel
theorem dX9_plan_18 : decode cX9_plan 18 = .ok (.ireturn, 1) := by decide +kernel
theorem dX9_plan_19 : decode cX9_plan 19 = .ok (.iload 6, 2) := by decide +kernel
theorem dX9_plan_21 : decode cX9_plan 21 = .ok (.iconst 0, 1) := by decide +kernel
theorem dX9_plan_22 : decode cX9_plan 22 = .ok (.iconst 5, 1) := by decide +kernel
theorem dX9_plan_23 : decode cX9_plan 23 = .ok (.invokestatic 65, 3) := by decide +kernel
theorem dX9_plan_26 : decode cX9_plan 26 = .ok (.ifCond .eq 24, 3) := by decide +kernel
theorem dX9_plan_29 : decode cX9_plan 29 = .ok (.iload_n 1, 1) := by decide +kernel
theorem dX9_plan_30 : decode cX9_plan 30 = .ok (.iload 6, 2) := by decide +kernel
theorem dX9_plan_32 : decode cX9_plan 32 = .ok (.ishr, 1) := by decide +kernel
theorem dX9_plan_33 : decode cX9_plan 33 = .ok (.iconst 1, 1) := by decide +kernel
theorem dX9_plan_34 : decode cX9_plan 34 = .ok (.iand, 1) := by decide +kernel
theorem dX9_plan_35 : decode cX9_plan 35 = .ok (.ifCond .eq 15, 3) := by decide +kernel
theorem dX9_plan_38 : decode cX9_plan 38 = .ok (.iload 5, 2) := by decide +kernel
theorem dX9_plan_40 : decode cX9_plan 40 = .ok (.iconst 0, 1) := by decide +kernel
theorem dX9_plan_41 : decode cX9_plan 41 = .ok (.iload_n 2, 1) := by decide +kernel
theorem dX9_plan_42 : decode cX9_plan 42 = .ok (.iconst 1, 1) := by decide +kernel
theorem dX9_plan_43 : decode cX9_plan 43 = .ok (.isub, 1) := by decide +kernel
theorem dX9_plan_44 : decode cX9_plan 44 = .ok (.invokestatic 65, 3) := by decide +kernel
theorem dX9_plan_47 : decode cX9_plan 47 = .ok (.ifCond .ne 5, 3) := by decide +kernel
theorem dX9_plan_50 : decode cX9_plan 50 = .ok (.iconst (-1), 1) := by decide +kernel
theorem dX9_plan_51 : decode cX9_plan 51 = .ok (.ireturn, 1) := by decide +kernel
theorem dX9_plan_52 : decode cX9_plan 52 = .ok (.aload_n 0, 1) := by decide +kernel
theorem dX9_plan_53 : decode cX9_plan 53 = .ok (.getfield 33, 3) := by decide +kernel
theorem dX9_plan_56 : decode cX9_plan 56 = .ok (.aload_n 0, 1) := by decide +kernel
theorem dX9_plan_57 : decode cX9_plan 57 = .ok (.getfield 12, 3) := by decide +kernel
theorem dX9_plan_60 : decode cX9_plan 60 = .ok (.iload_n 1, 1) := by decide +kernel
theorem dX9_plan_61 : decode cX9_plan 61 = .ok (.iload_n 2, 1) := by decide +kernel
theorem dX9_plan_62 : decode cX9_plan 62 = .ok (.iload_n 3, 1) := by decide +kernel
theorem dX9_plan_63 : decode cX9_plan 63 = .ok (.iload 4, 2) := by decide +kernel
theorem dX9_plan_65 : decode cX9_plan 65 = .ok (.invokevirtual 149, 3) := by decide +kernel
theorem dX9_plan_68 : decode cX9_plan 68 = .ok (.bipush (-6), 2) := by decide +kernel
theorem dX9_plan_70 : decode cX9_plan 70 = .ok (.if_icmp .ne 8, 3) := by decide +kernel
theorem dX9_plan_73 : decode cX9_plan 73 = .ok (.bipush (-6), 2) := by decide +kernel
theorem dX9_plan_75 : decode cX9_plan 75 = .ok (.goto 14, 3) := by decide +kernel
theorem dX9_plan_78 : decode cX9_plan 78 = .ok (.aload_n 0, 1) := by decide +kernel
theorem dX9_plan_79 : decode cX9_plan 79 = .ok (.getfield 33, 3) := by decide +kernel
theorem dX9_plan_82 : decode cX9_plan 82 = .ok (.iload 5, 2) := by decide +kernel
theorem dX9_plan_84 : decode cX9_plan 84 = .ok (.iload 6, 2) := by decide +kernel
theorem dX9_plan_86 : decode cX9_plan 86 = .ok (.invokevirtual 153, 3) := by decide +kernel
theorem dX9_plan_89 : decode cX9_plan 89 = .ok (.ireturn, 1) := by decide +kernel
theorem dX9_envy_0 : decode cX9_envy 0 = .ok (.iload_n 1, 1) := by decide +kernel
theorem dX9_envy_1 : decode cX9_envy 1 = .ok (.iconst 0, 1) := by decide +kernel
theorem dX9_envy_2 : decode cX9_envy 2 = .ok (.bipush 12, 2) := by decide +kernel
theorem dX9_envy_4 : decode cX9_envy 4 = .ok (.invokestatic 65, 3) := by decide +kernel
theorem dX9_envy_7 : decode cX9_envy 7 = .ok (.ifCond .eq 12, 3) := by decide +kernel
theorem dX9_envy_10 : decode cX9_envy 10 = .ok (.iload_n 2, 1) := by decide +kernel
theorem dX9_envy_11 : decode cX9_envy 11 = .ok (.iconst 0, 1) := by decide +kernel
theorem dX9_envy_12 : decode cX9_envy 12 = .ok (.iconst 1, 1) := by decide +kernel
theorem dX9_envy_13 : decode cX9_envy 13 = .ok (.invokestatic 65, 3) := by decide +kernel
theorem dX9_envy_16 : decode cX9_envy 16 = .ok (.ifCond .ne 6, 3) := by decide +kernel
theorem dX9_envy_19 : decode cX9_envy 19 = .ok (.bipush (-2), 2) := by decide +kernel
theorem dX9_envy_21 : decode cX9_envy 21 = .ok (.ireturn, 1) := by decide +kernel
theorem dX9_envy_22 : decode cX9_envy 22 = .ok (.aload_n 0, 1) := by decide +kernel
theorem dX9_envy_23 : decode cX9_envy 23 = .ok (.getfield 40, 3) := by decide +kernel
theorem dX9_envy_26 : decode cX9_envy 26 = .ok (.aload_n 0, 1) := by decide +kernel
theorem dX9_envy_27 : decode cX9_envy 27 = .ok (.getfield 12, 3) := by decide +kernel
theorem dX9_envy_30 : decode cX9_envy 30 = .ok (.iload_n 1, 1) := by decide +kernel
theorem dX9_envy_31 : decode cX9_envy 31 = .ok (.invokevirtual 157, 3) := by decide +kernel
theorem dX9_envy_34 : decode cX9_envy 34 = .ok (.iload_n 2, 1) := by decide +kernel
theorem dX9_envy_35 : decode cX9_envy 35 = .ok (.ifCond .ne 13, 3) := by decide +kernel
theorem dX9_envy_38 : decode cX9_envy 38 = .ok (.aload_n 0, 1) := by decide +kernel
theorem dX9_envy_39 : decode cX9_envy 39 = .ok (.getfield 40, 3) := by decide +kernel
theorem dX9_envy_42 : decode cX9_envy 42 = .ok (.getfield 161, 3) := by decide +kernel
theorem dX9_envy_45 : decode cX9_envy 45 = .ok (.goto 10, 3) := by decide +kernel
theorem dX9_envy_48 : decode cX9_envy 48 = .ok (.aload_n 0, 1) := by decide +kernel
theorem dX9_envy_49 : decode cX9_envy 49 = .ok (.getfield 40, 3) := by decide +kernel
theorem dX9_envy_52 : decode cX9_envy 52 = .ok (.getfield 164, 3) := by decide +kernel
theorem dX9_envy_55 : decode cX9_envy 55 = .ok (.ireturn, 1) := by decide +kernel
theorem dX9_refuses_0 : decode cX9_refuses 0 = .ok (.iload_n 1, 1) := by decide +kernel
theorem dX9_refuses_1 : decode cX9_refuses 1 = .ok (.iconst 0, 1) := by decide +kernel
theorem dX9_refuses_2 : decode cX9_refuses 2 = .ok (.bipush 60, 2) := by decide +kernel
theorem dX9_refuses_4 : decode cX9_refuses 4 = .ok (.invokestatic 65, 3) := by decide +kernel
theorem dX9_refuses_7 : decode cX9_refuses 7 = .ok (.ifCond .ne 6, 3) := by decide +kernel
theorem dX9_refuses_10 : decode cX9_refuses 10 = .ok (.bipush (-2), 2) := by decide +kernel
theorem dX9_refuses_12 : decode cX9_refuses 12 = .ok (.ireturn, 1) := by decide +kernel
theorem dX9_refuses_13 : decode cX9_refuses 13 = .ok (.iconst 0, 1) := by decide +kernel
theorem dX9_refuses_14 : decode cX9_refuses 14 = .ok (.istore_n 2, 1) := by decide +kernel
theorem dX9_refuses_15 : decode cX9_refuses 15 = .ok (.iconst 0, 1) := by decide +kernel
theorem dX9_refuses_16 : decode cX9_refuses 16 = .ok (.istore_n 3, 1) := by decide +kernel
theorem dX9_refuses_17 : decode cX9_refuses 17 = .ok (.iload_n 3, 1) := by decide +kernel
theorem dX9_refuses_18 : decode cX9_refuses 18 = .ok (.bipush 6, 2) := by decide +kernel
theorem dX9_refuses_20 : decode cX9_refuses 20 = .ok (.if_icmp .ge 86, 3) := by decide +kernel
theorem dX9_refuses_23 : decode cX9_refuses 23 = .ok (.aload_n 0, 1) := by decide +kernel
theorem dX9_refuses_24 : decode cX9_refuses 24 = .ok (.getfield 12, 3) := by decide +kernel
theorem dX9_refuses_27 : decode cX9_refuses 27 = .ok (.iload_n 3, 1) := by decide +kernel
theorem dX9_refuses_28 : decode cX9_refuses 28 = .ok (.invokevirtual 77, 3) := by decide +kernel
theorem dX9_refuses_31 : decode cX9_refuses 31 = .ok (.ifCond .eq 69, 3) := by decide +kernel
theorem dX9_refuses_34 : decode cX9_refuses 34 = .ok (.iload_n 1, 1) := by decide +kernel
theorem dX9_refuses_35 : decode cX9_refuses 35 = .ok (.aload_n 0, 1) := by decide +kernel
theorem dX9_refuses_36 : decode cX9_refuses 36 = .ok (.getfield 12, 3) := by decide +kernel
theorem dX9_refuses_39 : decode cX9_refuses 39 = .ok (.getfield 142, 3) := by decide +kernel
theorem dX9_refuses_42 : decode cX9_refuses 42 = .ok (.iload_n 3, 1) := by decide +kernel
theorem dX9_refuses_43 : decode cX9_refuses 43 = .ok (.iaload, 1) := by decide +kernel
theorem dX9_refuses_44 : decode cX9_refuses 44 = .ok (.imul, 1) := by decide +kernel
theorem dX9_refuses_45 : decode cX9_refuses 45 = .ok (.istore 4, 2) := by decide +kernel
theorem dX9_refuses_47 : decode cX9_refuses 47 = .ok (.bipush 99, 2) := by decide +kernel
theorem dX9_refuses_49 : decode cX9_refuses 49 = .ok (.aload_n 0, 1) := by decide +kernel
theorem dX9_refuses_50 : decode cX9_refuses 50 = .ok (.getfield 12, 3) := by decide +kernel
theorem dX9_refuses_53 : decode cX9_refuses 53 = .ok (.getfield 119, 3) := by decide +kernel
theorem dX9_refuses_56 : decode cX9_refuses 56 = .ok (.iload_n 3, 1) := by decide +kernel
theorem dX9_refuses_57 : decode cX9_refuses 57 = .ok (.iaload, 1) := by decide +kernel
theorem dX9_refuses_58 : decode cX9_refuses 58 = .ok (.iload 4, 2) := by decide +kernel
theorem dX9_refuses_60 : decode cX9_refuses 60 = .ok (.iadd, 1) := by decide +kernel
theorem dX9_refuses_61 : decode cX9_refuses 61 = .ok (.invokestatic 167, 3) := by decide +kernel
theorem dX9_refuses_64 : decode cX9_refuses 64 = .ok (.istore 5, 2) := by decide +kernel
theorem dX9_refuses_66 : decode cX9_refuses 66 = .ok (.aload_n 0, 1) := by decide +kernel
theorem dX9_refuses_67 : decode cX9_refuses 67 = .ok (.getfield 12, 3) := by decide +kernel
theorem dX9_refuses_70 : decode cX9_refuses 70 = .ok (.getfield 172, 3) := by decide +kernel
theorem dX9_refuses_73 : decode cX9_refuses 73 = .ok (.iload_n 3, 1) := by decide +kernel
theorem dX9_refuses_74 : decode cX9_refuses 74 = .ok (.iaload, 1) := by decide +kernel
theorem dX9_refuses_75 : decode cX9_refuses 75 = .ok (.aload_n 0, 1) := by decide +kernel
theorem dX9_refuses_76 : decode cX9_refuses 76 = .ok (.getfield 12, 3) := by decide +kernel
theorem dX9_refuses_79 : decode cX9_refuses 79 = .ok (.getfield 119, 3) := by decide +kernel
theorem dX9_refuses_82 : decode cX9_refuses 82 = .ok (.iload_n 3, 1) := by decide +kernel
theorem dX9_refuses_83 : decode cX9_refuses 83 = .ok (.iaload, 1) := by decide +kernel
theorem dX9_refuses_84 : decode cX9_refuses 84 = .ok (.iload 4, 2) := by decide +kernel
theorem dX9_refuses_86 : decode cX9_refuses 86 = .ok (.isub, 1) := by decide +kernel
theorem dX9_refuses_87 : decode cX9_refuses 87 = .ok (.invokestatic 175, 3) := by decide +kernel
theorem dX9_refuses_90 : decode cX9_refuses 90 = .ok (.istore 6, 2) := by decide +kernel
theorem dX9_refuses_92 : decode cX9_refuses 92 = .ok (.iload_n 2, 1) := by decide +kernel
theorem dX9_refuses_93 : decode cX9_refuses 93 = .ok (.iload 5, 2) := by decide +kernel
theorem dX9_refuses_95 : decode cX9_refuses 95 = .ok (.iload 6, 2) := by decide +kernel
theorem dX9_refuses_97 : decode cX9_refuses 97 = .ok (.isub, 1) := by decide +kernel
theorem dX9_refuses_98 : decode cX9_refuses 98 = .ok (.iadd, 1) := by decide +kernel
theorem dX9_refuses_99 : decode cX9_refuses 99 = .ok (.istore_n 2, 1) := by decide +kernel
theorem dX9_refuses_100 : decode cX9_refuses 100 = .ok (.iinc 3 1, 3) := by decide +kernel
theorem dX9_refuses_103 : decode cX9_refuses 103 = .ok (.goto (-86), 3) := by decide +kernel
theorem dX9_refuses_106 : decode cX9_refuses 106 = .ok (.iload_n 2, 1) := by decide +kernel
theorem dX9_refuses_107 : decode cX9_refuses 107 = .ok (.ireturn, 1) := by decide +kernel
theorem dX9_seen_0 : decode cX9_seen 0 = .ok (.aload_n 0, 1) := by decide +kernel
theorem dX9_seen_1 : decode cX9_seen 1 = .ok (.getfield 12, 3) := by decide +kernel
theorem dX9_seen_4 : decode cX9_seen 4 = .ok (.iload_n 1, 1) := by decide +kernel
theorem dX9_seen_5 : decode cX9_seen 5 = .ok (.invokevirtual 77, 3) := by decide +kernel
theorem dX9_seen_8 : decode cX9_seen 8 = .ok (.ifCond .ne 5, 3) := by decide +kernel
theorem dX9_seen_11 : decode cX9_seen 11 = .ok (.iconst (-1), 1) := by decide +kernel
theorem dX9_seen_12 : decode cX9_seen 12 = .ok (.ireturn, 1) := by decide +kernel
theorem dX9_seen_13 : decode cX9_seen 13 = .ok (.iload_n 2, 1) := by decide +kernel
theorem dX9_seen_14 : decode cX9_seen 14 = .ok (.iconst 0, 1) := by decide +kernel
theorem dX9_seen_15 : decode cX9_seen 15 = .ok (.bipush 99, 2) := by decide +kernel
theorem dX9_seen_17 : decode cX9_seen 17 = .ok (.invokestatic 65, 3) := by decide +kernel
theorem dX9_seen_20 : decode cX9_seen 20 = .ok (.ifCond .ne 6, 3) := by decide +kernel
theorem dX9_seen_23 : decode cX9_seen 23 = .ok (.bipush (-2), 2) := by decide +kernel
theorem dX9_seen_25 : decode cX9_seen 25 = .ok (.ireturn, 1) := by decide +kernel
theorem dX9_seen_26 : decode cX9_seen 26 = .ok (.aload_n 0, 1) := by decide +kernel
theorem dX9_seen_27 : decode cX9_seen 27 = .ok (.getfield 47, 3) := by decide +kernel
theorem dX9_seen_30 : decode cX9_seen 30 = .ok (.iload_n 1, 1) := by decide +kernel
theorem dX9_seen_31 : decode cX9_seen 31 = .ok (.iload_n 2, 1) := by decide +kernel
theorem dX9_seen_32 : decode cX9_seen 32 = .ok (.invokevirtual 178, 3) := by decide +kernel
theorem dX9_seen_35 : decode cX9_seen 35 = .ok (.ifCond .eq 13, 3) := by decide +kernel
theorem dX9_seen_38 : decode cX9_seen 38 = .ok (.aload_n 0, 1) := by decide +kernel
theorem dX9_seen_39 : decode cX9_seen 39 = .ok (.getfield 47, 3) := by decide +kernel
theorem dX9_seen_42 : decode cX9_seen 42 = .ok (.getfield 181, 3) := by decide +kernel
theorem dX9_seen_45 : decode cX9_seen 45 = .ok (.goto 5, 3) := by decide +kernel
theorem dX9_seen_48 : decode cX9_seen 48 = .ok (.bipush (-4), 2) := by decide +kernel
theorem dX9_seen_50 : decode cX9_seen 50 = .ok (.ireturn, 1) := by decide +kernel
theorem dX9_forget_0 : decode cX9_forget 0 = .ok (.aload_n 0, 1) := by decide +kernel
theorem dX9_forget_1 : decode cX9_forget 1 = .ok (.getfield 47, 3) := by decide +kernel
theorem dX9_forget_4 : decode cX9_forget 4 = .ok (.getfield 181, 3) := by decide +kernel
theorem dX9_forget_7 : decode cX9_forget 7 = .ok (.istore_n 1, 1) := by decide +kernel
theorem dX9_forget_8 : decode cX9_forget 8 = .ok (.aload_n 0, 1) := by decide +kernel
theorem dX9_forget_9 : decode cX9_forget 9 = .ok (.getfield 47, 3) := by decide +kernel
theorem dX9_forget_12 : decode cX9_forget 12 = .ok (.iconst 0, 1) := by decide +kernel
theorem dX9_forget_13 : decode cX9_forget 13 = .ok (.putfield 181, 3) := by decide +kernel
theorem dX9_forget_16 : decode cX9_forget 16 = .ok (.iload_n 1, 1) := by decide +kernel
theorem dX9_forget_17 : decode cX9_forget 17 = .ok (.ireturn, 1) := by decide +kernel
theorem dX9_gave_0 : decode cX9_gave 0 = .ok (.iload_n 1, 1) := by decide +kernel
theorem dX9_gave_1 : decode cX9_gave 1 = .ok (.iconst 0, 1) := by decide +kernel
theorem dX9_gave_2 : decode cX9_gave 2 = .ok (.iconst 1, 1) := by decide +kernel
theorem dX9_gave_3 : decode cX9_gave 3 = .ok (.invokestatic 65, 3) := by decide +kernel
theorem dX9_gave_6 : decode cX9_gave 6 = .ok (.ifCond .ne 6, 3) := by decide +kernel
theorem dX9_gave_9 : decode cX9_gave 9 = .ok (.bipush (-2), 2) := by decide +kernel
theorem dX9_gave_11 : decode cX9_gave 11 = .ok (.ireturn, 1) := by decide +kernel
theorem dX9_gave_12 : decode cX9_gave 12 = .ok (.aload_n 0, 1) := by decide +kernel
theorem dX9_gave_13 : decode cX9_gave 13 = .ok (.getfield 47, 3) := by decide +kernel
theorem dX9_gave_16 : decode cX9_gave 16 = .ok (.aload_n 0, 1) := by decide +kernel
theorem dX9_gave_17 : decode cX9_gave 17 = .ok (.getfield 12, 3) := by decide +kernel
theorem dX9_gave_20 : decode cX9_gave 20 = .ok (.invokevirtual 182, 3) := by decide +kernel
theorem dX9_gave_23 : decode cX9_gave 23 = .ok (.istore_n 2, 1) := by decide +kernel
theorem dX9_gave_24 : decode cX9_gave 24 = .ok (.iload_n 1, 1) := by decide +kernel
theorem dX9_gave_25 : decode cX9_gave 25 = .ok (.ifCond .ne 10, 3) := by decide +kernel
theorem dX9_gave_28 : decode cX9_gave 28 = .ok (.iload_n 2, 1) := by decide +kernel
theorem dX9_gave_29 : decode cX9_gave 29 = .ok (.invokestatic 186, 3) := by decide +kernel
theorem dX9_gave_32 : decode cX9_gave 32 = .ok (.goto 7, 3) := by decide +kernel
theorem dX9_gave_35 : decode cX9_gave 35 = .ok (.iload_n 2, 1) := by decide +kernel
theorem dX9_gave_36 : decode cX9_gave 36 = .ok (.bipush 63, 2) := by decide +kernel
theorem dX9_gave_38 : decode cX9_gave 38 = .ok (.iand, 1) := by decide +kernel
theorem dX9_gave_39 : decode cX9_gave 39 = .ok (.ireturn, 1) := by decide +kernel
theorem dX9_ask_0 : decode cX9_ask 0 = .ok (.iload_n 1, 1) := by decide +kernel
theorem dX9_ask_1 : decode cX9_ask 1 = .ok (.iconst 0, 1) := by decide +kernel
theorem dX9_ask_2 : decode cX9_ask 2 = .ok (.iconst 1, 1) := by decide +kernel
theorem dX9_ask_3 : decode cX9_ask 3 = .ok (.invokestatic 65, 3) := by decide +kernel
theorem dX9_ask_6 : decode cX9_ask 6 = .ok (.ifCond .ne 6, 3) := by decide +kernel
theorem dX9_ask_9 : decode cX9_ask 9 = .ok (.bipush (-2), 2) := by decide +kernel
theorem dX9_ask_11 : decode cX9_ask 11 = .ok (.ireturn, 1) := by decide +kernel
theorem dX9_ask_12 : decode cX9_ask 12 = .ok (.aload_n 0, 1) := by decide +kernel
theorem dX9_ask_13 : decode cX9_ask 13 = .ok (.getfield 47, 3) := by decide +kernel
theorem dX9_ask_16 : decode cX9_ask 16 = .ok (.aload_n 0, 1) := by decide +kernel
theorem dX9_ask_17 : decode cX9_ask 17 = .ok (.getfield 12, 3) := by decide +kernel
theorem dX9_ask_20 : decode cX9_ask 20 = .ok (.invokevirtual 182, 3) := by decide +kernel
theorem dX9_ask_23 : decode cX9_ask 23 = .ok (.istore_n 2, 1) := by decide +kernel
theorem dX9_ask_24 : decode cX9_ask 24 = .ok (.bipush (-6), 2) := by decide +kernel
theorem dX9_ask_26 : decode cX9_ask 26 = .ok (.istore_n 3, 1) := by decide +kernel
theorem dX9_ask_27 : decode cX9_ask 27 = .ok (.bipush (-6), 2) := by decide +kernel
theorem dX9_ask_29 : decode cX9_ask 29 = .ok (.istore 4, 2) := by decide +kernel
theorem dX9_ask_31 : decode cX9_ask 31 = .ok (.iconst 0, 1) := by decide +kernel
theorem dX9_ask_32 : decode cX9_ask 32 = .ok (.istore 5, 2) := by decide +kernel
theorem dX9_ask_34 : decode cX9_ask 34 = .ok (.iload 5, 2) := by decide +kernel
theorem dX9_ask_36 : decode cX9_ask 36 = .ok (.bipush 6, 2) := by decide +kernel
theorem dX9_ask_38 : decode cX9_ask 38 = .ok (.if_icmp .ge 57, 3) := by decide +kernel
theorem dX9_ask_41 : decode cX9_ask 41 = .ok (.iload_n 2, 1) := by decide +kernel
theorem dX9_ask_42 : decode cX9_ask 42 = .ok (.ifCond .eq 53, 3) := by decide +kernel
theorem dX9_ask_45 : decode cX9_ask 45 = .ok (.aload_n 0, 1) := by decide +kernel
theorem dX9_ask_46 : decode cX9_ask 46 = .ok (.getfield 12, 3) := by decide +kernel
theorem dX9_ask_49 : decode cX9_ask 49 = .ok (.iload 5, 2) := by decide +kernel
theorem dX9_ask_51 : decode cX9_ask 51 = .ok (.invokevirtual 77, 3) := by decide +kernel
theorem dX9_ask_54 : decode cX9_ask 54 = .ok (.ifCond .eq 35, 3) := by decide +kernel
theorem dX9_ask_57 : decode cX9_ask 57 = .ok (.aload_n 0, 1) := by decide +kernel
theorem dX9_ask_58 : decode cX9_ask 58 = .ok (.getfield 12, 3) := by decide +kernel
theorem dX9_ask_61 : decode cX9_ask 61 = .ok (.iload_n 2, 1) := by decide +kernel
theorem dX9_ask_62 : decode cX9_ask 62 = .ok (.iload 5, 2) := by decide +kernel
theorem dX9_ask_64 : decode cX9_ask 64 = .ok (.invokestatic 192, 3) := by decide +kernel
theorem dX9_ask_67 : decode cX9_ask 67 = .ok (.istore 6, 2) := by decide +kernel
theorem dX9_ask_69 : decode cX9_ask 69 = .ok (.iload_n 3, 1) := by decide +kernel
theorem dX9_ask_70 : decode cX9_ask 70 = .ok (.bipush (-6), 2) := by decide +kernel
theorem dX9_ask_72 : decode cX9_ask 72 = .ok (.if_icmp .eq 10, 3) := by decide +kernel
theorem dX9_ask_75 : decode cX9_ask 75 = .ok (.iload 6, 2) := by decide +kernel
theorem dX9_ask_77 : decode cX9_ask 77 = .ok (.iload 4, 2) := by decide +kernel
theorem dX9_ask_79 : decode cX9_ask 79 = .ok (.if_icmp .ge 10, 3) := by decide +kernel
theorem dX9_ask_82 : decode cX9_ask 82 = .ok (.iload 5, 2) := by decide +kernel
theorem dX9_ask_84 : decode cX9_ask 84 = .ok (.istore_n 3, 1) := by decide +kernel
theorem dX9_ask_85 : decode cX9_ask 85 = .ok (.iload 6, 2) := by decide +kernel
theorem dX9_ask_87 : decode cX9_ask 87 = .ok (.istore 4, 2) := by decide +kernel
theorem dX9_ask_89 : decode cX9_ask 89 = .ok (.iinc 5 1, 3) := by decide +kernel
theorem dX9_ask_92 : decode cX9_ask 92 = .ok (.goto (-58), 3) := by decide +kernel
theorem dX9_ask_95 : decode cX9_ask 95 = .ok (.iload_n 1, 1) := by decide +kernel
theorem dX9_ask_96 : decode cX9_ask 96 = .ok (.ifCond .ne 7, 3) := by decide +kernel
theorem dX9_ask_99 : decode cX9_ask 99 = .ok (.iload_n 3, 1) := by decide +kernel
theorem dX9_ask_100 : decode cX9_ask 100 = .ok (.goto 5, 3) := by decide +kernel
theorem dX9_ask_103 : decode cX9_ask 103 = .ok (.iload 4, 2) := by decide +kernel
theorem dX9_ask_105 : decode cX9_ask 105 = .ok (.ireturn, 1) := by decide +kernel
theorem dX9_thieves_0 : decode cX9_thieves 0 = .ok (.iload_n 1, 1) := by decide +kernel
theorem dX9_thieves_1 : decode cX9_thieves 1 = .ok (.iconst 1, 1) := by decide +kernel
theorem dX9_thieves_2 : decode cX9_thieves 2 = .ok (.bipush 99, 2) := by decide +kernel
theorem dX9_thieves_4 : decode cX9_thieves 4 = .ok (.invokestatic 65, 3) := by decide +kernel
theorem dX9_thieves_7 : decode cX9_thieves 7 = .ok (.ifCond .eq 22, 3) := by decide +kernel
theorem dX9_thieves_10 : decode cX9_thieves 10 = .ok (.iload_n 2, 1) := by decide +kernel
theorem dX9_thieves_11 : decode cX9_thieves 11 = .ok (.iconst 1, 1) := by decide +kernel
theorem dX9_thieves_12 : decode cX9_thieves 12 = .ok (.bipush 9, 2) := by decide +kernel
theorem dX9_thieves_14 : decode cX9_thieves 14 = .ok (.invokestatic 65, 3) := by decide +kernel
theorem dX9_thieves_17 : decode cX9_thieves 17 = .ok (.ifCond .eq 12, 3) := by decide +kernel
theorem dX9_thieves_20 : decode cX9_thieves 20 = .ok (.iload_n 3, 1) := by decide +kernel
theorem dX9_thieves_21 : decode cX9_thieves 21 = .ok (.iconst 0, 1) := by decide +kernel
theorem dX9_thieves_22 : decode cX9_thieves 22 = .ok (.iconst 1, 1) := by decide +kernel
theorem dX9_thieves_23 : decode cX9_thieves 23 = .ok (.invokestatic 65, 3) := by decide +kernel
theorem dX9_thieves_26 : decode cX9_thieves 26 = .ok (.ifCond .ne 6, 3) := by decide +kernel
theorem dX9_thieves_29 : decode cX9_thieves 29 = .ok (.bipush (-2), 2) := by decide +kernel
theorem dX9_thieves_31 : decode cX9_thieves 31 = .ok (.ireturn, 1) := by decide +kernel
theorem dX9_thieves_32 : decode cX9_thieves 32 = .ok (.iload_n 1, 1) := by decide +kernel
theorem dX9_thieves_33 : decode cX9_thieves 33 = .ok (.iconst 1, 1) := by decide +kernel
theorem dX9_thieves_34 : decode cX9_thieves 34 = .ok (.isub, 1) := by decide +kernel
theorem dX9_thieves_35 : decode cX9_thieves 35 = .ok (.iload_n 2, 1) := by decide +kernel
theorem dX9_thieves_36 : decode cX9_thieves 36 = .ok (.iconst 1, 1) := by decide +kernel
theorem dX9_thieves_37 : decode cX9_thieves 37 = .ok (.iadd, 1) := by decide +kernel
theorem dX9_thieves_38 : decode cX9_thieves 38 = .ok (.irem, 1) := by decide +kernel
theorem dX9_thieves_39 : decode cX9_thieves 39 = .ok (.istore 4, 2) := by decide +kernel
theorem dX9_thieves_41 : decode cX9_thieves 41 = .ok (.iload_n 3, 1) := by decide +kernel
theorem dX9_thieves_42 : decode cX9_thieves 42 = .ok (.ifCond .ne 14, 3) := by decide +kernel
theorem dX9_thieves_45 : decode cX9_thieves 45 = .ok (.iload 4, 2) := by decide +kernel
theorem dX9_thieves_47 : decode cX9_thieves 47 = .ok (.ifCond .ne 7, 3) := by decide +kernel
theorem dX9_thieves_50 : decode cX9_thieves 50 = .ok (.iconst 0, 1) := by decide +kernel
theorem dX9_thieves_51 : decode cX9_thieves 51 = .ok (.goto 4, 3) := by decide +kernel
theorem dX9_thieves_54 : decode cX9_thieves 54 = .ok (.iconst 1, 1) := by decide +kernel
theorem dX9_thieves_55 : decode cX9_thieves 55 = .ok (.ireturn, 1) := by decide +kernel
theorem dX9_thieves_56 : decode cX9_thieves 56 = .ok (.iload 4, 2) := by decide +kernel
theorem dX9_thieves_58 : decode cX9_thieves 58 = .ok (.ifCond .ne 8, 3) := by decide +kernel
theorem dX9_thieves_61 : decode cX9_thieves 61 = .ok (.bipush (-6), 2) := by decide +kernel
theorem dX9_thieves_63 : decode cX9_thieves 63 = .ok (.goto 5, 3) := by decide +kernel
theorem dX9_thieves_66 : decode cX9_thieves 66 = .ok (.iload 4, 2) := by decide +kernel
theorem dX9_thieves_68 : decode cX9_thieves 68 = .ok (.ireturn, 1) := by decide +kernel
theorem dX9_worms_0 : decode cX9_worms 0 = .ok (.aload_n 0, 1) := by decide +kernel
theorem dX9_worms_1 : decode cX9_worms 1 = .ok (.getfield 12, 3) := by decide +kernel
theorem dX9_worms_4 : decode cX9_worms 4 = .ok (.iload_n 1, 1) := by decide +kernel
theorem dX9_worms_5 : decode cX9_worms 5 = .ok (.invokevirtual 77, 3) := by decide +kernel
theorem dX9_worms_8 : decode cX9_worms 8 = .ok (.ifCond .ne 7, 3) := by decide +kernel
theorem dX9_worms_11 : decode cX9_worms 11 = .ok (.ldc2_w 196, 3) := by decide +kernel
theorem dX9_worms_14 : decode cX9_worms 14 = .ok (.lreturn, 1) := by decide +kernel
theorem dX9_worms_15 : decode cX9_worms 15 = .ok (.iload_n 2, 1) := by decide +kernel
theorem dX9_worms_16 : decode cX9_worms 16 = .ok (.iconst 0, 1) := by decide +kernel
theorem dX9_worms_17 : decode cX9_worms 17 = .ok (.bipush 6, 2) := by decide +kernel
theorem dX9_worms_19 : decode cX9_worms 19 = .ok (.invokestatic 65, 3) := by decide +kernel
theorem dX9_worms_22 : decode cX9_worms 22 = .ok (.ifCond .eq 34, 3) := by decide +kernel
theorem dX9_worms_25 : decode cX9_worms 25 = .ok (.iload_n 3, 1) := by decide +kernel
theorem dX9_worms_26 : decode cX9_worms 26 = .ok (.iconst 0, 1) := by decide +kernel
theorem dX9_worms_27 : decode cX9_worms 27 = .ok (.bipush 10, 2) := by decide +kernel
theorem dX9_worms_29 : decode cX9_worms 29 = .ok (.invokestatic 65, 3) := by decide +kernel
theorem dX9_worms_32 : decode cX9_worms 32 = .ok (.ifCond .eq 24, 3) := by decide +kernel
theorem dX9_worms_35 : decode cX9_worms 35 = .ok (.iload 4, 2) := by decide +kernel
theorem dX9_worms_37 : decode cX9_worms 37 = .ok (.iconst (-1), 1) := by decide +kernel
theorem dX9_worms_38 : decode cX9_worms 38 = .ok (.bipush 99, 2) := by decide +kernel
theorem dX9_worms_40 : decode cX9_worms 40 = .ok (.invokestatic 65, 3) := by decide +kernel
theorem dX9_worms_43 : decode cX9_worms 43 = .ok (.ifCond .eq 13, 3) := by decide +kernel
theorem dX9_worms_46 : decode cX9_worms 46 = .ok (.iload 5, 2) := by decide +kernel
theorem dX9_worms_48 : decode cX9_worms 48 = .ok (.iconst 0, 1) := by decide +kernel
theorem dX9_worms_49 : decode cX9_worms 49 = .ok (.iconst 1, 1) := by decide +kernel
theorem dX9_worms_50 : decode cX9_worms 50 = .ok (.invokestatic 65, 3) := by decide +kernel
theorem dX9_worms_53 : decode cX9_worms 53 = .ok (.ifCond .ne 7, 3) := by decide +kernel
theorem dX9_worms_56 : decode cX9_worms 56 = .ok (.ldc2_w 198, 3) := by decide +kernel
theorem dX9_worms_59 : decode cX9_worms 59 = .ok (.lreturn, 1) := by decide +kernel
theorem dX9_worms_60 : decode cX9_worms 60 = .ok (.aload_n 0, 1) := by decide +kernel
theorem dX9_worms_61 : decode cX9_worms 61 = .ok (.getfield 12, 3) := by decide +kernel
theorem dX9_worms_64 : decode cX9_worms 64 = .ok (.iload_n 1, 1) := by decide +kernel
theorem dX9_worms_65 : decode cX9_worms 65 = .ok (.iload_n 2, 1) := by decide +kernel
theorem dX9_worms_66 : decode cX9_worms 66 = .ok (.iload_n 3, 1) := by decide +kernel
theorem dX9_worms_67 : decode cX9_worms 67 = .ok (.iload 4, 2) := by decide +kernel
theorem dX9_worms_69 : decode cX9_worms 69 = .ok (.invokestatic 200, 3) := by decide +kernel
theorem dX9_worms_72 : decode cX9_worms 72 = .ok (.lstore 6, 2) := by decide +kernel
theorem dX9_worms_74 : decode cX9_worms 74 = .ok (.ldc2_w 205, 3) := by decide +kernel
theorem dX9_worms_77 : decode cX9_worms 77 = .ok (.iload_n 2, 1) := by decide +kernel
theorem dX9_worms_78 : decode cX9_worms 78 = .ok (.invokestatic 207, 3) := by decide +kernel
theorem dX9_worms_81 : decode cX9_worms 81 = .ok (.lstore 8, 2) := by decide +kernel
theorem dX9_worms_83 : decode cX9_worms 83 = .ok (.iload 5, 2) := by decide +kernel
theorem dX9_worms_85 : decode cX9_worms 85 = .ok (.ifCond .ne 8, 3) := by decide +kernel
theorem dX9_worms_88 : decode cX9_worms 88 = .ok (.lload 6, 2) := by decide +kernel
theorem dX9_worms_90 : decode cX9_worms 90 = .ok (.goto 5, 3) := by decide +kernel
theorem dX9_worms_93 : decode cX9_worms 93 = .ok (.lload 8, 2) := by decide +kernel
theorem dX9_worms_95 : decode cX9_worms 95 = .ok (.lload 6, 2) := by decide +kernel
theorem dX9_worms_97 : decode cX9_worms 97 = .ok (.lload 8, 2) := by decide +kernel
theorem dX9_worms_99 : decode cX9_worms 99 = .ok (.invokestatic 211, 3) := by decide +kernel
theorem dX9_worms_102 : decode cX9_worms 102 = .ok (.ldiv, 1) := by decide +kernel
theorem dX9_worms_103 : decode cX9_worms 103 = .ok (.lreturn, 1) := by decide +kernel
theorem dX9_year_0 : decode cX9_year 0 = .ok (.iload_n 1, 1) := by decide +kernel
theorem dX9_year_1 : decode cX9_year 1 = .ok (.iconst 0, 1) := by decide +kernel
theorem dX9_year_2 : decode cX9_year 2 = .ok (.sipush 9999, 3) := by decide +kernel
theorem dX9_year_5 : decode cX9_year 5 = .ok (.invokestatic 65, 3) := by decide +kernel
theorem dX9_year_8 : decode cX9_year 8 = .ok (.ifCond .eq 22, 3) := by decide +kernel
theorem dX9_year_11 : decode cX9_year 11 = .ok (.iload_n 2, 1) := by decide +kernel
theorem dX9_year_12 : decode cX9_year 12 = .ok (.iconst 1, 1) := by decide +kernel
theorem dX9_year_13 : decode cX9_year 13 = .ok (.bipush 99, 2) := by decide +kernel
theorem dX9_year_15 : decode cX9_year 15 = .ok (.invokestatic 65, 3) := by decide +kernel
theorem dX9_year_18 : decode cX9_year 18 = .ok (.ifCond .eq 12, 3) := by decide +kernel
theorem dX9_year_21 : decode cX9_year 21 = .ok (.iload_n 3, 1) := by decide +kernel
theorem dX9_year_22 : decode cX9_year 22 = .ok (.iconst 0, 1) := by decide +kernel
theorem dX9_year_23 : decode cX9_year 23 = .ok (.iconst 2, 1) := by decide +kernel
theorem dX9_year_24 : decode cX9_year 24 = .ok (.invokestatic 65, 3) := by decide +kernel
theorem dX9_year_27 : decode cX9_year 27 = .ok (.ifCond .ne 6, 3) := by decide +kernel
theorem dX9_year_30 : decode cX9_year 30 = .ok (.bipush (-2), 2) := by decide +kernel
theorem dX9_year_32 : decode cX9_year 32 = .ok (.ireturn, 1) := by decide +kernel
theorem dX9_year_33 : decode cX9_year 33 = .ok (.aload_n 0, 1) := by decide +kernel
theorem dX9_year_34 : decode cX9_year 34 = .ok (.getfield 54, 3) := by decide +kernel
theorem dX9_year_37 : decode cX9_year 37 = .ok (.aload_n 0, 1) := by decide +kernel
theorem dX9_year_38 : decode cX9_year 38 = .ok (.getfield 12, 3) := by decide +kernel
theorem dX9_year_41 : decode cX9_year 41 = .ok (.iload_n 1, 1) := by decide +kernel
theorem dX9_year_42 : decode cX9_year 42 = .ok (.iload_n 2, 1) := by decide +kernel
theorem dX9_year_43 : decode cX9_year 43 = .ok (.invokevirtual 215, 3) := by decide +kernel
theorem dX9_year_46 : decode cX9_year 46 = .ok (.iload_n 3, 1) := by decide +kernel
theorem dX9_year_47 : decode cX9_year 47 = .ok (.ifCond .ne 14, 3) := by decide +kernel
theorem dX9_year_50 : decode cX9_year 50 = .ok (.aload_n 0, 1) := by decide +kernel
theorem dX9_year_51 : decode cX9_year 51 = .ok (.getfield 54, 3) := by decide +kernel
theorem dX9_year_54 : decode cX9_year 54 = .ok (.getfield 219, 3) := by decide +kernel
theorem dX9_year_57 : decode cX9_year 57 = .ok (.invokevirtual 220, 3) := by decide +kernel
theorem dX9_year_60 : decode cX9_year 60 = .ok (.ireturn, 1) := by decide +kernel
theorem dX9_year_61 : decode cX9_year 61 = .ok (.iload_n 3, 1) := by decide +kernel
theorem dX9_year_62 : decode cX9_year 62 = .ok (.iconst 1, 1) := by decide +kernel
theorem dX9_year_63 : decode cX9_year 63 = .ok (.if_icmp .ne 16, 3) := by decide +kernel
theorem dX9_year_66 : decode cX9_year 66 = .ok (.aload_n 0, 1) := by decide +kernel
theorem dX9_year_67 : decode cX9_year 67 = .ok (.getfield 54, 3) := by decide +kernel
theorem dX9_year_70 : decode cX9_year 70 = .ok (.getfield 219, 3) := by decide +kernel
theorem dX9_year_73 : decode cX9_year 73 = .ok (.invokevirtual 223, 3) := by decide +kernel
theorem dX9_year_76 : decode cX9_year 76 = .ok (.goto 10, 3) := by decide +kernel
theorem dX9_year_79 : decode cX9_year 79 = .ok (.aload_n 0, 1) := by decide +kernel
theorem dX9_year_80 : decode cX9_year 80 = .ok (.getfield 54, 3) := by decide +kernel
theorem dX9_year_83 : decode cX9_year 83 = .ok (.getfield 226, 3) := by decide +kernel
theorem dX9_year_86 : decode cX9_year 86 = .ok (.ireturn, 1) := by decide +kernel
theorem dX9_image_0 : decode cX9_image 0 = .ok (.iload_n 1, 1) := by decide +kernel
theorem dX9_image_1 : decode cX9_image 1 = .ok (.iconst 0, 1) := by decide +kernel
theorem dX9_image_2 : decode cX9_image 2 = .ok (.iconst 1, 1) := by decide +kernel
theorem dX9_image_3 : decode cX9_image 3 = .ok (.invokestatic 65, 3) := by decide +kernel
theorem dX9_image_6 : decode cX9_image 6 = .ok (.ifCond .ne 6, 3) := by decide +kernel
theorem dX9_image_9 : decode cX9_image 9 = .ok (.bipush (-2), 2) := by decide +kernel
theorem dX9_image_11 : decode cX9_image 11 = .ok (.ireturn, 1) := by decide +kernel
theorem dX9_image_12 : decode cX9_image 12 = .ok (.aload_n 0, 1) := by decide +kernel
theorem dX9_image_13 : decode cX9_image 13 = .ok (.getfield 60, 3) := by decide +kernel
theorem dX9_image_16 : decode cX9_image 16 = .ok (.iload_n 1, 1) := by decide +kernel
theorem dX9_image_17 : decode cX9_image 17 = .ok (.aaload, 1) := by decide +kernel
theorem dX9_image_18 : decode cX9_image 18 = .ok (.aload_n 0, 1) := by decide +kernel
theorem dX9_image_19 : decode cX9_image 19 = .ok (.getfield 12, 3) := by decide +kernel
theorem dX9_image_22 : decode cX9_image 22 = .ok (.aload_n 0, 1) := by decide +kernel
theorem dX9_image_23 : decode cX9_image 23 = .ok (.getfield 47, 3) := by decide +kernel
theorem dX9_image_26 : decode cX9_image 26 = .ok (.invokevirtual 227, 3) := by decide +kernel
theorem dX9_image_29 : decode cX9_image 29 = .ok (.iconst 1, 1) := by decide +kernel
theorem dX9_image_30 : decode cX9_image 30 = .ok (.ireturn, 1) := by decide +kernel
theorem dX9_restore_0 : decode cX9_restore 0 = .ok (.iload_n 1, 1) := by decide +kernel
theorem dX9_restore_1 : decode cX9_restore 1 = .ok (.iconst 0, 1) := by decide +kernel
theorem dX9_restore_2 : decode cX9_restore 2 = .ok (.iconst 1, 1) := by decide +kernel
theorem dX9_restore_3 : decode cX9_restore 3 = .ok (.invokestatic 65, 3) := by decide +kernel
theorem dX9_restore_6 : decode cX9_restore 6 = .ok (.ifCond .ne 6, 3) := by decide +kernel
theorem dX9_restore_9 : decode cX9_restore 9 = .ok (.bipush (-2), 2) := by decide +kernel
theorem dX9_restore_11 : decode cX9_restore 11 = .ok (.ireturn, 1) := by decide +kernel
theorem dX9_restore_12 : decode cX9_restore 12 = .ok (.aload_n 0, 1) := by decide +kernel
theorem dX9_restore_13 : decode cX9_restore 13 = .ok (.getfield 60, 3) := by decide +kernel
theorem dX9_restore_16 : decode cX9_restore 16 = .ok (.iload_n 1, 1) := by decide +kernel
theorem dX9_restore_17 : decode cX9_restore 17 = .ok (.aaload, 1) := by decide +kernel
theorem dX9_restore_18 : decode cX9_restore 18 = .ok (.getfield 231, 3) := by decide +kernel
theorem dX9_restore_21 : decode cX9_restore 21 = .ok (.ifCond .ne 6, 3) := by decide +kernel
theorem dX9_restore_24 : decode cX9_restore 24 = .ok (.bipush (-3), 2) := by decide +kernel
theorem dX9_restore_26 : decode cX9_restore 26 = .ok (.ireturn, 1) := by decide +kernel
theorem dX9_restore_27 : decode cX9_restore 27 = .ok (.aload_n 0, 1) := by decide +kernel
theorem dX9_restore_28 : decode cX9_restore 28 = .ok (.getfield 60, 3) := by decide +kernel
theorem dX9_restore_31 : decode cX9_restore 31 = .ok (.iload_n 1, 1) := by decide +kernel
theorem dX9_restore_32 : decode cX9_restore 32 = .ok (.aaload, 1) := by decide +kernel
theorem dX9_restore_33 : decode cX9_restore 33 = .ok (.aload_n 0, 1) := by decide +kernel
theorem dX9_restore_34 : decode cX9_restore 34 = .ok (.getfield 12, 3) := by decide +kernel
theorem dX9_restore_37 : decode cX9_restore 37 = .ok (.aload_n 0, 1) := by decide +kernel
theorem dX9_restore_38 : decode cX9_restore 38 = .ok (.getfield 47, 3) := by decide +kernel
theorem dX9_restore_41 : decode cX9_restore 41 = .ok (.invokevirtual 235, 3) := by decide +kernel
theorem dX9_restore_44 : decode cX9_restore 44 = .ok (.iconst 1, 1) := by decide +kernel
theorem dX9_restore_45 : decode cX9_restore 45 = .ok (.ireturn, 1) := by decide +kernel
theorem dX9_told_0 : decode cX9_told 0 = .ok (.iload_n 1, 1) := by decide +kernel
theorem dX9_told_1 : decode cX9_told 1 = .ok (.tableswitch 87 0 5 #[39, 47, 55, 63, 71, 79], 39) := by decide +kernel
theorem dX9_told_40 : decode cX9_told 40 = .ok (.aload_n 0, 1) := by decide +kernel
theorem dX9_told_41 : decode cX9_told 41 = .ok (.getfield 19, 3) := by decide +kernel
theorem dX9_told_44 : decode cX9_told 44 = .ok (.getfield 98, 3) := by decide +kernel
theorem dX9_told_47 : decode cX9_told 47 = .ok (.ireturn, 1) := by decide +kernel
theorem dX9_told_48 : decode cX9_told 48 = .ok (.aload_n 0, 1) := by decide +kernel
theorem dX9_told_49 : decode cX9_told 49 = .ok (.getfield 12, 3) := by decide +kernel
theorem dX9_told_52 : decode cX9_told 52 = .ok (.getfield 238, 3) := by decide +kernel
theorem dX9_told_55 : decode cX9_told 55 = .ok (.ireturn, 1) := by decide +kernel
theorem dX9_told_56 : decode cX9_told 56 = .ok (.aload_n 0, 1) := by decide +kernel
theorem dX9_told_57 : decode cX9_told 57 = .ok (.getfield 12, 3) := by decide +kernel
theorem dX9_told_60 : decode cX9_told 60 = .ok (.getfield 85, 3) := by decide +kernel
theorem dX9_told_63 : decode cX9_told 63 = .ok (.ireturn, 1) := by decide +kernel
theorem dX9_told_64 : decode cX9_told 64 = .ok (.aload_n 0, 1) := by decide +kernel
theorem dX9_told_65 : decode cX9_told 65 = .ok (.getfield 12, 3) := by decide +kernel
theorem dX9_told_68 : decode cX9_told 68 = .ok (.getfield 89, 3) := by decide +kernel
theorem dX9_told_71 : decode cX9_told 71 = .ok (.ireturn, 1) := by decide +kernel
theorem dX9_told_72 : decode cX9_told 72 = .ok (.aload_n 0, 1) := by decide +kernel
theorem dX9_told_73 : decode cX9_told 73 = .ok (.getfield 12, 3) := by decide +kernel
theorem dX9_told_76 : decode cX9_told 76 = .ok (.getfield 92, 3) := by decide +kernel
theorem dX9_told_79 : decode cX9_told 79 = .ok (.ireturn, 1) := by decide +kernel
theorem dX9_told_80 : decode cX9_told 80 = .ok (.aload_n 0, 1) := by decide +kernel
theorem dX9_told_81 : decode cX9_told 81 = .ok (.getfield 47, 3) := by decide +kernel
theorem dX9_told_84 : decode cX9_told 84 = .ok (.getfield 181, 3) := by decide +kernel
theorem dX9_told_87 : decode cX9_told 87 = .ok (.ireturn, 1) := by decide +kernel
theorem dX9_told_88 : decode cX9_told 88 = .ok (.iload_n 1, 1) := by decide +kernel
theorem dX9_told_89 : decode cX9_told 89 = .ok (.bipush 10, 2) := by decide +kernel
theorem dX9_told_91 : decode cX9_told 91 = .ok (.if_icmp .ge 8, 3) := by decide +kernel
theorem dX9_told_94 : decode cX9_told 94 = .ok (.bipush (-2), 2) := by decide +kernel
theorem dX9_told_96 : decode cX9_told 96 = .ok (.goto 17, 3) := by decide +kernel
theorem dX9_told_99 : decode cX9_told 99 = .ok (.aload_n 0, 1) := by decide +kernel
theorem dX9_told_100 : decode cX9_told 100 = .ok (.iload_n 1, 1) := by decide +kernel
theorem dX9_told_101 : decode cX9_told 101 = .ok (.bipush 10, 2) := by decide +kernel
theorem dX9_told_103 : decode cX9_told 103 = .ok (.idiv, 1) := by decide +kernel
theorem dX9_told_104 : decode cX9_told 104 = .ok (.iconst 1, 1) := by decide +kernel
theorem dX9_told_105 : decode cX9_told 105 = .ok (.isub, 1) := by decide +kernel
theorem dX9_told_106 : decode cX9_told 106 = .ok (.iload_n 1, 1) := by decide +kernel
theorem dX9_told_107 : decode cX9_told 107 = .ok (.bipush 10, 2) := by decide +kernel
theorem dX9_told_109 : decode cX9_told 109 = .ok (.irem, 1) := by decide +kernel
theorem dX9_told_110 : decode cX9_told 110 = .ok (.invokevirtual 241, 3) := by decide +kernel
theorem dX9_told_113 : decode cX9_told 113 = .ok (.ireturn, 1) := by decide +kernel
theorem dX9_toldOf_0 : decode cX9_toldOf 0 = .ok (.aload_n 0, 1) := by decide +kernel
theorem dX9_toldOf_1 : decode cX9_toldOf 1 = .ok (.getfield 12, 3) := by decide +kernel
theorem dX9_toldOf_4 : decode cX9_toldOf 4 = .ok (.iload_n 1, 1) := by decide +kernel
theorem dX9_toldOf_5 : decode cX9_toldOf 5 = .ok (.invokevirtual 77, 3) := by decide +kernel
theorem dX9_toldOf_8 : decode cX9_toldOf 8 = .ok (.ifCond .ne 6, 3) := by decide +kernel
theorem dX9_toldOf_11 : decode cX9_toldOf 11 = .ok (.bipush (-2), 2) := by decide +kernel
theorem dX9_toldOf_13 : decode cX9_toldOf 13 = .ok (.ireturn, 1) := by decide +kernel
theorem dX9_toldOf_14 : decode cX9_toldOf 14 = .ok (.iload_n 2, 1) := by decide +kernel
theorem dX9_toldOf_15 : decode cX9_toldOf 15 = .ok (.tableswitch 69 0 3 #[29, 39, 49, 59], 29) := by decide +kernel
theorem dX9_toldOf_44 : decode cX9_toldOf 44 = .ok (.aload_n 0, 1) := by decide +kernel
theorem dX9_toldOf_45 : decode cX9_toldOf 45 = .ok (.getfield 12, 3) := by decide +kernel
theorem dX9_toldOf_48 : decode cX9_toldOf 48 = .ok (.getfield 119, 3) := by decide +kernel
theorem dX9_toldOf_51 : decode cX9_toldOf 51 = .ok (.iload_n 1, 1) := by decide +kernel
theorem dX9_toldOf_52 : decode cX9_toldOf 52 = .ok (.iaload, 1) := by decide +kernel
theorem dX9_toldOf_53 : decode cX9_toldOf 53 = .ok (.ireturn, 1) := by decide +kernel
theorem dX9_toldOf_54 : decode cX9_toldOf 54 = .ok (.aload_n 0, 1) := by decide +kernel
theorem dX9_toldOf_55 : decode cX9_toldOf 55 = .ok (.getfield 12, 3) := by decide +kernel
theorem dX9_toldOf_58 : decode cX9_toldOf 58 = .ok (.getfield 142, 3) := by decide +kernel
theorem dX9_toldOf_61 : decode cX9_toldOf 61 = .ok (.iload_n 1, 1) := by decide +kernel
theorem dX9_toldOf_62 : decode cX9_toldOf 62 = .ok (.iaload, 1) := by decide +kernel
theorem dX9_toldOf_63 : decode cX9_toldOf 63 = .ok (.ireturn, 1) := by decide +kernel
theorem dX9_toldOf_64 : decode cX9_toldOf 64 = .ok (.aload_n 0, 1) := by decide +kernel
theorem dX9_toldOf_65 : decode cX9_toldOf 65 = .ok (.getfield 12, 3) := by decide +kernel
theorem dX9_toldOf_68 : decode cX9_toldOf 68 = .ok (.getfield 172, 3) := by decide +kernel
theorem dX9_toldOf_71 : decode cX9_toldOf 71 = .ok (.iload_n 1, 1) := by decide +kernel
theorem dX9_toldOf_72 : decode cX9_toldOf 72 = .ok (.iaload, 1) := by decide +kernel
theorem dX9_toldOf_73 : decode cX9_toldOf 73 = .ok (.ireturn, 1) := by decide +kernel
theorem dX9_toldOf_74 : decode cX9_toldOf 74 = .ok (.aload_n 0, 1) := by decide +kernel
theorem dX9_toldOf_75 : decode cX9_toldOf 75 = .ok (.getfield 12, 3) := by decide +kernel
theorem dX9_toldOf_78 : decode cX9_toldOf 78 = .ok (.getfield 123, 3) := by decide +kernel
theorem dX9_toldOf_81 : decode cX9_toldOf 81 = .ok (.iload_n 1, 1) := by decide +kernel
theorem dX9_toldOf_82 : decode cX9_toldOf 82 = .ok (.iaload, 1) := by decide +kernel
theorem dX9_toldOf_83 : decode cX9_toldOf 83 = .ok (.ireturn, 1) := by decide +kernel
theorem dX9_toldOf_84 : decode cX9_toldOf 84 = .ok (.bipush (-2), 2) := by decide +kernel
theorem dX9_toldOf_86 : decode cX9_toldOf 86 = .ok (.ireturn, 1) := by decide +kernel
theorem dX9_liveDays_0 : decode cX9_liveDays 0 = .ok (.aload_n 0, 1) := by decide +kernel
theorem dX9_liveDays_1 : decode cX9_liveDays 1 = .ok (.getfield 19, 3) := by decide +kernel
theorem dX9_liveDays_4 : decode cX9_liveDays 4 = .ok (.invokevirtual 101, 3) := by decide +kernel
theorem dX9_liveDays_7 : decode cX9_liveDays 7 = .ok (.bipush (-6), 2) := by decide +kernel
theorem dX9_liveDays_9 : decode cX9_liveDays 9 = .ok (.if_icmp .eq 6, 3) := by decide +kernel
theorem dX9_liveDays_12 : decode cX9_liveDays 12 = .ok (.bipush (-5), 2) := by decide +kernel
theorem dX9_liveDays_14 : decode cX9_liveDays 14 = .ok (.ireturn, 1) := by decide +kernel
theorem dX9_liveDays_15 : decode cX9_liveDays 15 = .ok (.aload_n 0, 1) := by decide +kernel
theorem dX9_liveDays_16 : decode cX9_liveDays 16 = .ok (.getfield 26, 3) := by decide +kernel
theorem dX9_liveDays_19 : decode cX9_liveDays 19 = .ok (.aload_n 0, 1) := by decide +kernel
theorem dX9_liveDays_20 : decode cX9_liveDays 20 = .ok (.getfield 12, 3) := by decide +kernel
theorem dX9_liveDays_23 : decode cX9_liveDays 23 = .ok (.aload_n 0, 1) := by decide +kernel
theorem dX9_liveDays_24 : decode cX9_liveDays 24 = .ok (.getfield 19, 3) := by decide +kernel
theorem dX9_liveDays_27 : decode cX9_liveDays 27 = .ok (.invokevirtual 244, 3) := by decide +kernel
theorem dX9_liveDays_30 : decode cX9_liveDays 30 = .ok (.aload_n 0, 1) := by decide +kernel
theorem dX9_liveDays_31 : decode cX9_liveDays 31 = .ok (.getfield 26, 3) := by decide +kernel
theorem dX9_liveDays_34 : decode cX9_liveDays 34 = .ok (.getfield 110, 3) := by decide +kernel
theorem dX9_liveDays_37 : decode cX9_liveDays 37 = .ok (.bipush (-6), 2) := by decide +kernel
theorem dX9_liveDays_39 : decode cX9_liveDays 39 = .ok (.if_icmp .ne 7, 3) := by decide +kernel
theorem dX9_liveDays_42 : decode cX9_liveDays 42 = .ok (.iconst 0, 1) := by decide +kernel
theorem dX9_liveDays_43 : decode cX9_liveDays 43 = .ok (.goto 5, 3) := by decide +kernel
theorem dX9_liveDays_46 : decode cX9_liveDays 46 = .ok (.bipush (-3), 2) := by decide +kernel
theorem dX9_liveDays_48 : decode cX9_liveDays 48 = .ok (.ireturn, 1) := by decide +kernel
theorem dX9_refuseKeeping_0 : decode cX9_refuseKeeping 0 = .ok (.iload_n 1, 1) := by decide +kernel
theorem dX9_refuseKeeping_1 : decode cX9_refuseKeeping 1 = .ok (.iconst 0, 1) := by decide +kernel
theorem dX9_refuseKeeping_2 : decode cX9_refuseKeeping 2 = .ok (.bipush 63, 2) := by decide +kernel
theorem dX9_refuseKeeping_4 : decode cX9_refuseKeeping 4 = .ok (.invokestatic 65, 3) := by decide +kernel
theorem dX9_refuseKeeping_7 : decode cX9_refuseKeeping 7 = .ok (.ifCond .eq 17, 3) := by decide +kernel
theorem dX9_refuseKeeping_10 : decode cX9_refuseKeeping 10 = .ok (.iload_n 1, 1) := by decide +kernel
theorem dX9_refuseKeeping_11 : decode cX9_refuseKeeping 11 = .ok (.aload_n 0, 1) := by decide +kernel
theorem dX9_refuseKeeping_12 : decode cX9_refuseKeeping 12 = .ok (.getfield 12, 3) := by decide +kernel
theorem dX9_refuseKeeping_15 : decode cX9_refuseKeeping 15 = .ok (.getfield 238, 3) := by decide +kernel
theorem dX9_refuseKeeping_18 : decode cX9_refuseKeeping 18 = .ok (.iconst (-1), 1) := by decide +kernel
theorem dX9_refuseKeeping_19 : decode cX9_refuseKeeping 19 = .ok (.ixor, 1) := by decide +kernel
theorem dX9_refuseKeeping_20 : decode cX9_refuseKeeping 20 = .ok (.iand, 1) := by decide +kernel
theorem dX9_refuseKeeping_21 : decode cX9_refuseKeeping 21 = .ok (.ifCond .eq 5, 3) := by decide +kernel
theorem dX9_refuseKeeping_24 : decode cX9_refuseKeeping 24 = .ok (.iconst (-1), 1) := by decide +kernel
theorem dX9_refuseKeeping_25 : decode cX9_refuseKeeping 25 = .ok (.ireturn, 1) := by decide +kernel
theorem dX9_refuseKeeping_26 : decode cX9_refuseKeeping 26 = .ok (.iload_n 2, 1) := by decide +kernel
theorem dX9_refuseKeeping_27 : decode cX9_refuseKeeping 27 = .ok (.iconst 0, 1) := by decide +kernel
theorem dX9_refuseKeeping_28 : decode cX9_refuseKeeping 28 = .ok (.bipush 6, 2) := by decide +kernel
theorem dX9_refuseKeeping_30 : decode cX9_refuseKeeping 30 = .ok (.invokestatic 65, 3) := by decide +kernel
theorem dX9_refuseKeeping_33 : decode cX9_refuseKeeping 33 = .ok (.ifCond .eq 24, 3) := by decide +kernel
theorem dX9_refuseKeeping_36 : decode cX9_refuseKeeping 36 = .ok (.iload_n 3, 1) := by decide +kernel
theorem dX9_refuseKeeping_37 : decode cX9_refuseKeeping 37 = .ok (.iconst 0, 1) := by decide +kernel
theorem dX9_refuseKeeping_38 : decode cX9_refuseKeeping 38 = .ok (.bipush 6, 2) := by decide +kernel
theorem dX9_refuseKeeping_40 : decode cX9_refuseKeeping 40 = .ok (.invokestatic 65, 3) := by decide +kernel
theorem dX9_refuseKeeping_43 : decode cX9_refuseKeeping 43 = .ok (.ifCond .eq 14, 3) := by decide +kernel
theorem dX9_refuseKeeping_46 : decode cX9_refuseKeeping 46 = .ok (.iload 4, 2) := by decide +kernel
theorem dX9_refuseKeeping_48 : decode cX9_refuseKeeping 48 = .ok (.iconst 0, 1) := by decide +kernel
theorem dX9_refuseKeeping_49 : decode cX9_refuseKeeping 49 = .ok (.bipush 99, 2) := by decide +kernel
theorem dX9_refuseKeeping_51 : decode cX9_refuseKeeping 51 = .ok (.invokestatic 65, 3) := by decide +kernel
theorem dX9_refuseKeeping_54 : decode cX9_refuseKeeping 54 = .ok (.ifCond .ne 6, 3) := by decide +kernel
theorem dX9_refuseKeeping_57 : decode cX9_refuseKeeping 57 = .ok (.bipush (-2), 2) := by decide +kernel
theorem dX9_refuseKeeping_59 : decode cX9_refuseKeeping 59 = .ok (.ireturn, 1) := by decide +kernel
theorem dX9_refuseKeeping_60 : decode cX9_refuseKeeping 60 = .ok (.iload_n 1, 1) := by decide +kernel
theorem dX9_refuseKeeping_61 : decode cX9_refuseKeeping 61 = .ok (.invokestatic 186, 3) := by decide +kernel
theorem dX9_refuseKeeping_64 : decode cX9_refuseKeeping 64 = .ok (.iconst 3, 1) := by decide +kernel
theorem dX9_refuseKeeping_65 : decode cX9_refuseKeeping 65 = .ok (.if_icmp .le 8, 3) := by decide +kernel
theorem dX9_refuseKeeping_68 : decode cX9_refuseKeeping 68 = .ok (.bipush (-4), 2) := by decide +kernel
theorem dX9_refuseKeeping_70 : decode cX9_refuseKeeping 70 = .ok (.goto 4, 3) := by decide +kernel
theorem dX9_refuseKeeping_73 : decode cX9_refuseKeeping 73 = .ok (.iconst 0, 1) := by decide +kernel
theorem dX9_refuseKeeping_74 : decode cX9_refuseKeeping 74 = .ok (.ireturn, 1) := by decide +kernel
theorem b_X9_one_0 {l : Launch} {z d : Nat} {X : jX} {M : Nat → Int → Int} {Q : Option jV → jM → Prop} {x1 : Int} {x2 : Int} {x3 : Int} {x4 : Int}   (k1 : 0 ≤ x1 ∧ x1 ≤ 5 → 0 ≤ x2 ∧ x2 ≤ 99 → 1 ≤ x3 ∧ x3 ≤ 9 → 0 ≤ x4 ∧ x4 ≤ x2 → J l z X (d + 1) mX1_settle (0, 0) 0 [jR 1, jI x1, jI x2, jI x3, jI x4] [] (jG, M) (fun r μ => J l z X (d + 2) mX9_one (0, 0) 56 [jR 0, jI x1, jI x2, jI x3, jI x4] (r.toList ++ []) μ Q)) (k2 : 0 ≤ x1 ∧ x1 ≤ 5 → 0 ≤ x2 ∧ x2 ≤ 99 → 1 ≤ x3 ∧ x3 ≤ 9 → ¬ (0 ≤ x4 ∧ x4 ≤ x2) → Q (some (jI (-2))) (jG, M)) (k3 : 0 ≤ x1 ∧ x1 ≤ 5 → 0 ≤ x2 ∧ x2 ≤ 99 → ¬ (1 ≤ x3 ∧ x3 ≤ 9) → Q (some (jI (-2))) (jG, M)) (k4 : 0 ≤ x1 ∧ x1 ≤ 5 → ¬ (0 ≤ x2 ∧ x2 ≤ 99) → Q (some (jI (-2))) (jG, M)) (k5 : ¬ (0 ≤ x1 ∧ x1 ≤ 5) → Q (some (jI (-1))) (jG, M)) : J l z X (d + 2) mX9_one (0, 0) 0 [jR 0, jI x1, jI x2, jI x3, jI x4] [] (jG, M) Q :=
  (J_iload_n dX9_one_0 rfl (J_iconst dX9_one_1 jc_0 (J_iconst dX9_one_2 jc_5 (J_callS (a1 := (0, 0)) (a2 := (0, 0)) (mm' := mX9_within) (S := []) [jI x1, jI 0, jI 5] md_X9_within is_X9_within dX9_one_3 wm_X9_65 rfl rfl (Nat.le_of_ble_eq_true rfl) (Nat.le_of_ble_eq_true rfl) rfl (c_X9_within   (fun c1 => (J_if_ne dX9_one_6 (tgt := 11) (by decide) (fun _ => (J_iload_n dX9_one_11 rfl (J_iconst dX9_one_12 jc_0 (J_bipush dX9_one_13 jc_99 jb_99 (J_callS (a1 := (0, 0)) (a2 := (0, 0)) (mm' := mX9_within) (S := []) [jI x2, jI 0, jI 99] md_X9_within is_X9_within dX9_one_15 wm_X9_65 rfl rfl (Nat.le_of_ble_eq_true rfl) (Nat.le_of_ble_eq_true rfl) rfl (c_X9_within   (fun c2 => (J_if_eq dX9_one_18 (tgt := 41) (by decide) (fun c => absurd c (by decide)) (fun _ => (J_iload_n dX9_one_21 rfl (J_iconst dX9_one_22 jc_1 (J_bipush dX9_one_23 jc_9 jb_9 (J_callS (a1 := (0, 0)) (a2 := (0, 0)) (mm' := mX9_within) (S := []) [jI x3, jI 1, jI 9] md_X9_within is_X9_within dX9_one_25 wm_X9_65 rfl rfl (Nat.le_of_ble_eq_true rfl) (Nat.le_of_ble_eq_true rfl) rfl (c_X9_within   (fun c3 => (J_if_eq dX9_one_28 (tgt := 41) (by decide) (fun c => absurd c (by decide)) (fun _ => (J_iload dX9_one_31 rfl (J_iconst dX9_one_33 jc_0 (J_iload_n dX9_one_34 rfl (J_callS (a1 := (0, 0)) (a2 := (0, 0)) (mm' := mX9_within) (S := []) [jI x4, jI 0, jI x2] md_X9_within is_X9_within dX9_one_35 wm_X9_65 rfl rfl (Nat.le_of_ble_eq_true rfl) (Nat.le_of_ble_eq_true rfl) rfl (c_X9_within   (fun c4 => (J_if_ne dX9_one_38 (tgt := 44) (by decide) (fun _ => (J_aload_n dX9_one_44 rfl (J_getR (k := 0) jcl_X9 dX9_one_45 wf_X9_12 g_0 (Nat.le_of_ble_eq_true rfl) rfl rfl (J_iload_n dX9_one_48 rfl (J_iload_n dX9_one_49 rfl (J_iload_n dX9_one_50 rfl (J_iload dX9_one_51 rfl (J_callV (a1 := (0, 0)) (a2 := (0, 0)) (mm' := mX1_settle) (S := []) [jI x1, jI x2, jI x3, jI x4] md_X1_settle im_X1_settle se_X1_settle dX9_one_53 wm_X9_69 jcl_X1.1 rfl g_1 rfl rfl (Nat.le_of_ble_eq_true rfl) (Nat.le_of_ble_eq_true rfl) rfl (k1 c1 c2 c3 c4))))))))) (fun c => absurd c (by decide)))) (fun c4 => (J_if_ne dX9_one_38 (tgt := 44) (by decide) (fun c => absurd c (by decide)) (fun _ => (J_bipush dX9_one_41 jc_m2 jb_m2 (J_iret dX9_one_43 rfl (k2 c1 c2 c3 c4)))))))))))))) (fun c3 => (J_if_eq dX9_one_28 (tgt := 41) (by decide) (fun _ => (J_bipush dX9_one_41 jc_m2 jb_m2 (J_iret dX9_one_43 rfl (k3 c1 c2 c3)))) (fun c => absurd c (by decide)))))))))))) (fun c2 => (J_if_eq dX9_one_18 (tgt := 41) (by decide) (fun _ => (J_bipush dX9_one_41 jc_m2 jb_m2 (J_iret dX9_one_43 rfl (k4 c1 c2)))) (fun c => absurd c (by decide)))))))))) (fun c => absurd c (by decide)))) (fun c1 => (J_if_ne dX9_one_6 (tgt := 11) (by decide) (fun c => absurd c (by decide)) (fun _ => (J_iconst dX9_one_9 jc_m1 (J_iret dX9_one_10 rfl (k5 c1)))))))))))
theorem b_X9_one_56 {l : Launch} {z d : Nat} {X : jX} {M : Nat → Int → Int} {Q : Option jV → jM → Prop} {x1 : Int} {x2 : Int} {x3 : Int} {x4 : Int}  (s1 : 0 ≤ (M 1 4) ∧ (M 1 4) < 128) (k1 : Q (some (jI (popc (M 1 4)))) (jG, M)) : J l z X (d + 2) mX9_one (0, 0) 56 [jR 0, jI x1, jI x2, jI x3, jI x4] [] (jG, M) Q :=
  (J_aload_n dX9_one_56 rfl (J_getR (k := 0) jcl_X9 dX9_one_57 wf_X9_12 g_0 (Nat.le_of_ble_eq_true rfl) rfl rfl (J_callV (a1 := (0, 0)) (a2 := (0, 0)) (mm' := mX1_people) (S := []) [] md_X1_people im_X1_people se_X1_people dX9_one_60 wm_X9_73 jcl_X1.1 rfl g_1 rfl rfl (Nat.le_of_ble_eq_true rfl) (Nat.le_of_ble_eq_true rfl) rfl (c_X1_people hi_1 s1 (J_iret dX9_one_63 rfl k1)))))
theorem b_X9_leave_0 {l : Launch} {z d : Nat} {X : jX} {M : Nat → Int → Int} {Q : Option jV → jM → Prop} {x1 : Int}   (k1 : hasB (M 1 4) x1 = true → J l z X (d + 1) mX1_drop (0, 0) 0 [jR 1, jI x1] [] (jG, M) (fun r μ => J l z X (d + 2) mX9_leave (0, 0) 21 [jR 0, jI x1] (r.toList ++ []) μ Q)) (k2 : hasB (M 1 4) x1 = false → Q (some (jI (-1))) (jG, M)) : J l z X (d + 2) mX9_leave (0, 0) 0 [jR 0, jI x1] [] (jG, M) Q :=
  (J_aload_n dX9_leave_0 rfl (J_getR (k := 0) jcl_X9 dX9_leave_1 wf_X9_12 g_0 (Nat.le_of_ble_eq_true rfl) rfl rfl (J_iload_n dX9_leave_4 rfl (J_callV (a1 := (0, 0)) (a2 := (0, 0)) (mm' := mX1_has) (S := []) [jI x1] md_X1_has im_X1_has se_X1_has dX9_leave_5 wm_X9_77 jcl_X1.1 rfl g_1 rfl rfl (Nat.le_of_ble_eq_true rfl) (Nat.le_of_ble_eq_true rfl) rfl (c_X1_has hi_1  (fun c1 => (J_if_ne dX9_leave_8 (tgt := 13) (by decide) (fun _ => (J_aload_n dX9_leave_13 rfl (J_getR (k := 0) jcl_X9 dX9_leave_14 wf_X9_12 g_0 (Nat.le_of_ble_eq_true rfl) rfl rfl (J_iload_n dX9_leave_17 rfl (J_callV (a1 := (0, 0)) (a2 := (0, 0)) (mm' := mX1_drop) (S := []) [jI x1] md_X1_drop im_X1_drop se_X1_drop dX9_leave_18 wm_X9_81 jcl_X1.1 rfl g_1 rfl rfl (Nat.le_of_ble_eq_true rfl) (Nat.le_of_ble_eq_true rfl) rfl (k1 c1)))))) (fun c => absurd c (by decide)))) (fun c1 => (J_if_ne dX9_leave_8 (tgt := 13) (by decide) (fun c => absurd c (by decide)) (fun _ => (J_iconst dX9_leave_11 jc_m1 (J_iret dX9_leave_12 rfl (k2 c1)))))))))))
theorem b_X9_leave_21 {l : Launch} {z d : Nat} {X : jX} {M : Nat → Int → Int} {Q : Option jV → jM → Prop} {x1 : Int}  (s1 : 0 ≤ (M 1 4) ∧ (M 1 4) < 128) (k1 : Q (some (jI (popc (M 1 4)))) (jG, M)) : J l z X (d + 2) mX9_leave (0, 0) 21 [jR 0, jI x1] [] (jG, M) Q :=
  (J_aload_n dX9_leave_21 rfl (J_getR (k := 0) jcl_X9 dX9_leave_22 wf_X9_12 g_0 (Nat.le_of_ble_eq_true rfl) rfl rfl (J_callV (a1 := (0, 0)) (a2 := (0, 0)) (mm' := mX1_people) (S := []) [] md_X1_people im_X1_people se_X1_people dX9_leave_25 wm_X9_73 jcl_X1.1 rfl g_1 rfl rfl (Nat.le_of_ble_eq_true rfl) (Nat.le_of_ble_eq_true rfl) rfl (c_X1_people hi_1 s1 (J_iret dX9_leave_28 rfl k1)))))
theorem b_X9_set_0 {l : Launch} {z d : Nat} {X : jX} {M : Nat → Int → Int} {Q : Option jV → jM → Prop} {x1 : Int} {x2 : Int}   (k1 : x1 ≠ 0 → J l z X (d + 1) mX9_set (0, 0) 33 [jR 0, jI x1, jI x2, jN] [] (jG, M) Q) (k2 : x1 = 0 → 0 ≤ x2 ∧ x2 ≤ 99 → Q (some (jI (M 1 5))) (jG, (jupd M 1 5 x2))) (k3 : x1 = 0 → ¬ (0 ≤ x2 ∧ x2 ≤ 99) → J l z X (d + 1) mX9_set (0, 0) 33 [jR 0, jI x1, jI x2, jN] [] (jG, M) Q) : J l z X (d + 1) mX9_set (0, 0) 0 [jR 0, jI x1, jI x2, jN] [] (jG, M) Q :=
  (J_iload_n dX9_set_0 rfl (J_if_ne dX9_set_1 (tgt := 33) (by decide) (fun c1 => (k1 c1)) (fun c1 => (J_iload_n dX9_set_4 rfl (J_iconst dX9_set_5 jc_0 (J_bipush dX9_set_6 jc_99 jb_99 (J_callS (a1 := (0, 0)) (a2 := (0, 0)) (mm' := mX9_within) (S := []) [jI x2, jI 0, jI 99] md_X9_within is_X9_within dX9_set_8 wm_X9_65 rfl rfl (Nat.le_of_ble_eq_true rfl) (Nat.le_of_ble_eq_true rfl) rfl (c_X9_within   (fun c2 => (J_if_eq dX9_set_11 (tgt := 33) (by decide) (fun c => absurd c (by decide)) (fun _ => (J_aload_n dX9_set_14 rfl (J_getR (k := 0) jcl_X9 dX9_set_15 wf_X9_12 g_0 (Nat.le_of_ble_eq_true rfl) rfl rfl (J_getIN (k := 5) (kz := 5) jcl_X1 dX9_set_18 wf_X9_85 g_1 (Nat.le_of_ble_eq_true rfl) rfl rfl (J_istore_n dX9_set_21 (Nat.le_of_ble_eq_true rfl) (J_aload_n dX9_set_22 rfl (J_getR (k := 0) jcl_X9 dX9_set_23 wf_X9_12 g_0 (Nat.le_of_ble_eq_true rfl) rfl rfl (J_iload_n dX9_set_26 rfl (J_putIN (k := 5) (kz := 5) jcl_X1 dX9_set_27 wf_X9_85 g_1 (Nat.le_of_ble_eq_true rfl) rfl rfl rfl (J_goto dX9_set_30 (tgt := 103) (by decide) (J_iload_n dX9_set_103 rfl (J_iret dX9_set_104 rfl (k2 c1 c2))))))))))))))) (fun c2 => (J_if_eq dX9_set_11 (tgt := 33) (by decide) (fun _ => (k3 c1 c2)) (fun c => absurd c (by decide))))))))))))
theorem b_X9_set_33 {l : Launch} {z d : Nat} {X : jX} {M : Nat → Int → Int} {Q : Option jV → jM → Prop} {x1 : Int} {x2 : Int}   (k1 : x1 ≠ 1 → J l z X (d + 1) mX9_set (0, 0) 67 [jR 0, jI x1, jI x2, jN] [] (jG, M) Q) (k2 : x1 = 1 → 0 ≤ x2 ∧ x2 ≤ 40 → Q (some (jI (M 1 6))) (jG, (jupd M 1 6 x2))) (k3 : x1 = 1 → ¬ (0 ≤ x2 ∧ x2 ≤ 40) → J l z X (d + 1) mX9_set (0, 0) 67 [jR 0, jI x1, jI x2, jN] [] (jG, M) Q) : J l z X (d + 1) mX9_set (0, 0) 33 [jR 0, jI x1, jI x2, jN] [] (jG, M) Q :=
  (J_iload_n dX9_set_33 rfl (J_iconst dX9_set_34 jc_1 (J_icmp_ne dX9_set_35 (tgt := 67) (by decide) (fun c1 => (k1 c1)) (fun c1 => (J_iload_n dX9_set_38 rfl (J_iconst dX9_set_39 jc_0 (J_bipush dX9_set_40 jc_40 jb_40 (J_callS (a1 := (0, 0)) (a2 := (0, 0)) (mm' := mX9_within) (S := []) [jI x2, jI 0, jI 40] md_X9_within is_X9_within dX9_set_42 wm_X9_65 rfl rfl (Nat.le_of_ble_eq_true rfl) (Nat.le_of_ble_eq_true rfl) rfl (c_X9_within   (fun c2 => (J_if_eq dX9_set_45 (tgt := 67) (by decide) (fun c => absurd c (by decide)) (fun _ => (J_aload_n dX9_set_48 rfl (J_getR (k := 0) jcl_X9 dX9_set_49 wf_X9_12 g_0 (Nat.le_of_ble_eq_true rfl) rfl rfl (J_getIN (k := 6) (kz := 6) jcl_X1 dX9_set_52 wf_X9_89 g_1 (Nat.le_of_ble_eq_true rfl) rfl rfl (J_istore_n dX9_set_55 (Nat.le_of_ble_eq_true rfl) (J_aload_n dX9_set_56 rfl (J_getR (k := 0) jcl_X9 dX9_set_57 wf_X9_12 g_0 (Nat.le_of_ble_eq_true rfl) rfl rfl (J_iload_n dX9_set_60 rfl (J_putIN (k := 6) (kz := 6) jcl_X1 dX9_set_61 wf_X9_89 g_1 (Nat.le_of_ble_eq_true rfl) rfl rfl rfl (J_goto dX9_set_64 (tgt := 103) (by decide) (J_iload_n dX9_set_103 rfl (J_iret dX9_set_104 rfl (k2 c1 c2))))))))))))))) (fun c2 => (J_if_eq dX9_set_45 (tgt := 67) (by decide) (fun _ => (k3 c1 c2)) (fun c => absurd c (by decide)))))))))))))
theorem b_X9_set_67 {l : Launch} {z d : Nat} {X : jX} {M : Nat → Int → Int} {Q : Option jV → jM → Prop} {x1 : Int} {x2 : Int}   (k1 : x1 ≠ 2 → Q (some (jI (-2))) (jG, M)) (k2 : x1 = 2 → 0 ≤ x2 ∧ x2 ≤ 1 → Q (some (jI (M 1 7))) (jG, (jupd M 1 7 x2))) (k3 : x1 = 2 → ¬ (0 ≤ x2 ∧ x2 ≤ 1) → Q (some (jI (-2))) (jG, M)) : J l z X (d + 1) mX9_set (0, 0) 67 [jR 0, jI x1, jI x2, jN] [] (jG, M) Q :=
  (J_iload_n dX9_set_67 rfl (J_iconst dX9_set_68 jc_2 (J_icmp_ne dX9_set_69 (tgt := 100) (by decide) (fun c1 => (J_bipush dX9_set_100 jc_m2 jb_m2 (J_iret dX9_set_102 rfl (k1 c1)))) (fun c1 => (J_iload_n dX9_set_72 rfl (J_iconst dX9_set_73 jc_0 (J_iconst dX9_set_74 jc_1 (J_callS (a1 := (0, 0)) (a2 := (0, 0)) (mm' := mX9_within) (S := []) [jI x2, jI 0, jI 1] md_X9_within is_X9_within dX9_set_75 wm_X9_65 rfl rfl (Nat.le_of_ble_eq_true rfl) (Nat.le_of_ble_eq_true rfl) rfl (c_X9_within   (fun c2 => (J_if_eq dX9_set_78 (tgt := 100) (by decide) (fun c => absurd c (by decide)) (fun _ => (J_aload_n dX9_set_81 rfl (J_getR (k := 0) jcl_X9 dX9_set_82 wf_X9_12 g_0 (Nat.le_of_ble_eq_true rfl) rfl rfl (J_getIN (k := 7) (kz := 7) jcl_X1 dX9_set_85 wf_X9_92 g_1 (Nat.le_of_ble_eq_true rfl) rfl rfl (J_istore_n dX9_set_88 (Nat.le_of_ble_eq_true rfl) (J_aload_n dX9_set_89 rfl (J_getR (k := 0) jcl_X9 dX9_set_90 wf_X9_12 g_0 (Nat.le_of_ble_eq_true rfl) rfl rfl (J_iload_n dX9_set_93 rfl (J_putIN (k := 7) (kz := 7) jcl_X1 dX9_set_94 wf_X9_92 g_1 (Nat.le_of_ble_eq_true rfl) rfl rfl rfl (J_goto dX9_set_97 (tgt := 103) (by decide) (J_iload_n dX9_set_103 rfl (J_iret dX9_set_104 rfl (k2 c1 c2))))))))))))))) (fun c2 => (J_if_eq dX9_set_78 (tgt := 100) (by decide) (fun _ => (J_bipush dX9_set_100 jc_m2 jb_m2 (J_iret dX9_set_102 rfl (k3 c1 c2)))) (fun c => absurd c (by decide)))))))))))))
theorem b_X9_say_0 {l : Launch} {z d : Nat} {X : jX} {M : Nat → Int → Int} {Q : Option jV → jM → Prop} {x1 : Int}   (k1 : 33 ≤ x1 ∧ x1 ≤ 126 → J l z X d mX4_add (0, 0) 0 [jR 6, jI x1] [] (jG, M) (fun r μ => J l z X (d + 1) mX9_say (0, 0) 22 [jR 0, jI x1] (r.toList ++ []) μ Q)) (k2 : ¬ (33 ≤ x1 ∧ x1 ≤ 126) → Q (some (jI (-2))) (jG, M)) : J l z X (d + 1) mX9_say (0, 0) 0 [jR 0, jI x1] [] (jG, M) Q :=
  (J_iload_n dX9_say_0 rfl (J_bipush dX9_say_1 jc_33 jb_33 (J_bipush dX9_say_3 jc_126 jb_126 (J_callS (a1 := (0, 0)) (a2 := (0, 0)) (mm' := mX9_within) (S := []) [jI x1, jI 33, jI 126] md_X9_within is_X9_within dX9_say_5 wm_X9_65 rfl rfl (Nat.le_of_ble_eq_true rfl) (Nat.le_of_ble_eq_true rfl) rfl (c_X9_within   (fun c1 => (J_if_ne dX9_say_8 (tgt := 14) (by decide) (fun _ => (J_aload_n dX9_say_14 rfl (J_getR (k := 1) jcl_X9 dX9_say_15 wf_X9_19 g_0 (Nat.le_of_ble_eq_true rfl) rfl rfl (J_iload_n dX9_say_18 rfl (J_callV (a1 := (0, 0)) (a2 := (0, 0)) (mm' := mX4_add) (S := []) [jI x1] md_X4_add im_X4_add se_X4_add dX9_say_19 wm_X9_95 jcl_X4.1 rfl g_6 rfl rfl (Nat.le_of_ble_eq_true rfl) (Nat.le_of_ble_eq_true rfl) rfl (k1 c1)))))) (fun c => absurd c (by decide)))) (fun c1 => (J_if_ne dX9_say_8 (tgt := 14) (by decide) (fun c => absurd c (by decide)) (fun _ => (J_bipush dX9_say_11 jc_m2 jb_m2 (J_iret dX9_say_13 rfl (k2 c1)))))))))))
theorem b_X9_say_22 {l : Launch} {z d : Nat} {X : jX} {M : Nat → Int → Int} {Q : Option jV → jM → Prop} {x1 : Int} {t0 : Int}   (k1 : t0 = 0 → Q (some (jI (-4))) (jG, M)) (k2 : t0 ≠ 0 → Q (some (jI (M 6 4))) (jG, M)) : J l z X (d + 1) mX9_say (0, 0) 22 [jR 0, jI x1] [jI t0] (jG, M) Q :=
  (J_if_eq dX9_say_22 (tgt := 35) (by decide) (fun c1 => (J_bipush dX9_say_35 jc_m4 jb_m4 (J_iret dX9_say_37 rfl (k1 c1)))) (fun c1 => (J_aload_n dX9_say_25 rfl (J_getR (k := 1) jcl_X9 dX9_say_26 wf_X9_19 g_0 (Nat.le_of_ble_eq_true rfl) rfl rfl (J_getIN (k := 4) (kz := 4) jcl_X4 dX9_say_29 wf_X9_98 g_6 (Nat.le_of_ble_eq_true rfl) rfl rfl (J_goto dX9_say_32 (tgt := 37) (by decide) (J_iret dX9_say_37 rfl (k2 c1))))))))
theorem b_X9_wipe_0 {l : Launch} {z d : Nat} {X : jX} {M : Nat → Int → Int} {Q : Option jV → jM → Prop}    (k1 : Q (some (jI (M 6 4))) (jG, (jupd M 6 4 0))) : J l z X d mX9_wipe (0, 0) 0 [jR 0, jN] [] (jG, M) Q :=
  (J_aload_n dX9_wipe_0 rfl (J_getR (k := 1) jcl_X9 dX9_wipe_1 wf_X9_19 g_0 (Nat.le_of_ble_eq_true rfl) rfl rfl (J_getIN (k := 4) (kz := 4) jcl_X4 dX9_wipe_4 wf_X9_98 g_6 (Nat.le_of_ble_eq_true rfl) rfl rfl (J_istore_n dX9_wipe_7 (Nat.le_of_ble_eq_true rfl) (J_aload_n dX9_wipe_8 rfl (J_getR (k := 1) jcl_X9 dX9_wipe_9 wf_X9_19 g_0 (Nat.le_of_ble_eq_true rfl) rfl rfl (J_iconst dX9_wipe_12 jc_0 (J_putIN (k := 4) (kz := 4) jcl_X4 dX9_wipe_13 wf_X9_98 g_6 (Nat.le_of_ble_eq_true rfl) rfl rfl rfl (J_iload_n dX9_wipe_16 rfl (J_iret dX9_wipe_17 rfl k1))))))))))
theorem b_X9_fault_0 {l : Launch} {z d : Nat} {X : jX} {M : Nat → Int → Int} {Q : Option jV → jM → Prop}    (k1 : J l z X (d + 1) mX4_read (0, 0) 0 [jR 6, jN, jN, jN, jN] [] (jG, M) (fun r μ => J l z X (d + 2) mX9_fault (0, 0) 7 [jR 0] (r.toList ++ []) μ Q)) : J l z X (d + 2) mX9_fault (0, 0) 0 [jR 0] [] (jG, M) Q :=
  (J_aload_n dX9_fault_0 rfl (J_getR (k := 1) jcl_X9 dX9_fault_1 wf_X9_19 g_0 (Nat.le_of_ble_eq_true rfl) rfl rfl (J_callV (a1 := (0, 0)) (a2 := (0, 0)) (mm' := mX4_read) (S := []) [] md_X4_read im_X4_read se_X4_read dX9_fault_4 wm_X9_101 jcl_X4.1 rfl g_6 rfl rfl (Nat.le_of_ble_eq_true rfl) (Nat.le_of_ble_eq_true rfl) rfl k1)))
theorem b_X9_fault_7 {l : Launch} {z d : Nat} {X : jX} {M : Nat → Int → Int} {Q : Option jV → jM → Prop} {t0 : Int}   (k1 : Q (some (jI t0)) (jG, M)) : J l z X (d + 2) mX9_fault (0, 0) 7 [jR 0] [jI t0] (jG, M) Q :=
  (J_iret dX9_fault_7 rfl k1)
theorem b_X9_judge_0 {l : Launch} {z d : Nat} {X : jX} {M : Nat → Int → Int} {Q : Option jV → jM → Prop} {x1 : Int}   (k1 : 0 ≤ x1 ∧ x1 ≤ 2 → J l z X (d + 5) mX9_liveDays (0, 0) 0 [jR 0] [] (jG, M) (fun r μ => J l z X (d + 6) mX9_judge (0, 0) 16 [jR 0, jI x1, jN] (r.toList ++ []) μ Q)) (k2 : ¬ (0 ≤ x1 ∧ x1 ≤ 2) → Q (some (jI (-2))) (jG, M)) : J l z X (d + 6) mX9_judge (0, 0) 0 [jR 0, jI x1, jN] [] (jG, M) Q :=
  (J_iload_n dX9_judge_0 rfl (J_iconst dX9_judge_1 jc_0 (J_iconst dX9_judge_2 jc_2 (J_callS (a1 := (0, 0)) (a2 := (0, 0)) (mm' := mX9_within) (S := []) [jI x1, jI 0, jI 2] md_X9_within is_X9_within dX9_judge_3 wm_X9_65 rfl rfl (Nat.le_of_ble_eq_true rfl) (Nat.le_of_ble_eq_true rfl) rfl (c_X9_within   (fun c1 => (J_if_ne dX9_judge_6 (tgt := 12) (by decide) (fun _ => (J_aload_n dX9_judge_12 rfl (J_callV (a1 := (0, 0)) (a2 := (0, 0)) (mm' := mX9_liveDays) (S := []) [] md_X9_liveDays im_X9_liveDays se_X9_liveDays dX9_judge_13 wm_X9_104 jcl_X9.1 rfl g_0 rfl rfl (Nat.le_of_ble_eq_true rfl) (Nat.le_of_ble_eq_true rfl) rfl (k1 c1)))) (fun c => absurd c (by decide)))) (fun c1 => (J_if_ne dX9_judge_6 (tgt := 12) (by decide) (fun c => absurd c (by decide)) (fun _ => (J_bipush dX9_judge_9 jc_m2 jb_m2 (J_iret dX9_judge_11 rfl (k2 c1)))))))))))
theorem b_X9_judge_16 {l : Launch} {z d : Nat} {X : jX} {M : Nat → Int → Int} {Q : Option jV → jM → Prop} {x1 : Int} {t0 : Int}   (k1 : t0 = (-5) → Q (some (jI t0)) (jG, M)) (k2 : t0 ≠ (-5) → x1 ≠ 2 → J l z X (d + 6) mX9_judge (0, 0) 36 [jR 0, jI x1, jI t0] [] (jG, M) Q) (k3 : t0 ≠ (-5) → x1 = 2 → t0 ≠ (-3) → J l z X (d + 6) mX9_judge (0, 0) 36 [jR 0, jI x1, jI t0] [] (jG, M) Q) (k4 : t0 ≠ (-5) → x1 = 2 → t0 = (-3) → Q (some (jI t0)) (jG, M)) : J l z X (d + 6) mX9_judge (0, 0) 16 [jR 0, jI x1, jN] [jI t0] (jG, M) Q :=
  (J_istore_n dX9_judge_16 (Nat.le_of_ble_eq_true rfl) (J_iload_n dX9_judge_17 rfl (J_bipush dX9_judge_18 jc_m5 jb_m5 (J_icmp_eq dX9_judge_20 (tgt := 34) (by decide) (fun c1 => (J_iload_n dX9_judge_34 rfl (J_iret dX9_judge_35 rfl (k1 c1)))) (fun c1 => (J_iload_n dX9_judge_23 rfl (J_iconst dX9_judge_24 jc_2 (J_icmp_ne dX9_judge_25 (tgt := 36) (by decide) (fun c2 => (k2 c1 c2)) (fun c2 => (J_iload_n dX9_judge_28 rfl (J_bipush dX9_judge_29 jc_m3 jb_m3 (J_icmp_ne dX9_judge_31 (tgt := 36) (by decide) (fun c3 => (k3 c1 c2 c3)) (fun c3 => (J_iload_n dX9_judge_34 rfl (J_iret dX9_judge_35 rfl (k4 c1 c2 c3))))))))))))))))
theorem b_X9_judge_36 {l : Launch} {z d : Nat} {X : jX} {M : Nat → Int → Int} {Q : Option jV → jM → Prop} {x1 : Int} {x2 : Int}   (k1 : x1 ≠ 2 → x1 ≠ 0 → Q (some (jI (M 11 5))) (jG, M)) (k2 : x1 ≠ 2 → x1 = 0 → Q (some (jI (M 11 4))) (jG, M)) (k3 : x1 = 2 → Q (some (jI (M 11 3))) (jG, M)) : J l z X (d + 6) mX9_judge (0, 0) 36 [jR 0, jI x1, jI x2] [] (jG, M) Q :=
  (J_iload_n dX9_judge_36 rfl (J_iconst dX9_judge_37 jc_2 (J_icmp_ne dX9_judge_38 (tgt := 49) (by decide) (fun c1 => (J_iload_n dX9_judge_49 rfl (J_if_ne dX9_judge_50 (tgt := 63) (by decide) (fun c2 => (J_aload_n dX9_judge_63 rfl (J_getR (k := 2) jcl_X9 dX9_judge_64 wf_X9_26 g_0 (Nat.le_of_ble_eq_true rfl) rfl rfl (J_getIN (k := 5) (kz := 5) jcl_X0 dX9_judge_67 wf_X9_113 g_11 (Nat.le_of_ble_eq_true rfl) rfl rfl (J_iret dX9_judge_70 rfl (k1 c1 c2)))))) (fun c2 => (J_aload_n dX9_judge_53 rfl (J_getR (k := 2) jcl_X9 dX9_judge_54 wf_X9_26 g_0 (Nat.le_of_ble_eq_true rfl) rfl rfl (J_getIN (k := 4) (kz := 4) jcl_X0 dX9_judge_57 wf_X9_110 g_11 (Nat.le_of_ble_eq_true rfl) rfl rfl (J_goto dX9_judge_60 (tgt := 70) (by decide) (J_iret dX9_judge_70 rfl (k2 c1 c2)))))))))) (fun c1 => (J_aload_n dX9_judge_41 rfl (J_getR (k := 2) jcl_X9 dX9_judge_42 wf_X9_26 g_0 (Nat.le_of_ble_eq_true rfl) rfl rfl (J_getIN (k := 3) (kz := 3) jcl_X0 dX9_judge_45 wf_X9_107 g_11 (Nat.le_of_ble_eq_true rfl) rfl rfl (J_iret dX9_judge_48 rfl (k3 c1)))))))))
theorem b_X9_behind_0 {l : Launch} {z d : Nat} {X : jX} {M : Nat → Int → Int} {Q : Option jV → jM → Prop} {x1 : Int} {x2 : Int}   (k1 : 0 ≤ x2 ∧ x2 ≤ 1 → J l z X (d + 5) mX9_liveDays (0, 0) 0 [jR 0] [] (jG, M) (fun r μ => J l z X (d + 6) mX9_behind (0, 0) 16 [jR 0, jI x1, jI x2, jN] (r.toList ++ []) μ Q)) (k2 : ¬ (0 ≤ x2 ∧ x2 ≤ 1) → Q (some (jI (-2))) (jG, M)) : J l z X (d + 6) mX9_behind (0, 0) 0 [jR 0, jI x1, jI x2, jN] [] (jG, M) Q :=
  (J_iload_n dX9_behind_0 rfl (J_iconst dX9_behind_1 jc_0 (J_iconst dX9_behind_2 jc_1 (J_callS (a1 := (0, 0)) (a2 := (0, 0)) (mm' := mX9_within) (S := []) [jI x2, jI 0, jI 1] md_X9_within is_X9_within dX9_behind_3 wm_X9_65 rfl rfl (Nat.le_of_ble_eq_true rfl) (Nat.le_of_ble_eq_true rfl) rfl (c_X9_within   (fun c1 => (J_if_ne dX9_behind_6 (tgt := 12) (by decide) (fun _ => (J_aload_n dX9_behind_12 rfl (J_callV (a1 := (0, 0)) (a2 := (0, 0)) (mm' := mX9_liveDays) (S := []) [] md_X9_liveDays im_X9_liveDays se_X9_liveDays dX9_behind_13 wm_X9_104 jcl_X9.1 rfl g_0 rfl rfl (Nat.le_of_ble_eq_true rfl) (Nat.le_of_ble_eq_true rfl) rfl (k1 c1)))) (fun c => absurd c (by decide)))) (fun c1 => (J_if_ne dX9_behind_6 (tgt := 12) (by decide) (fun c => absurd c (by decide)) (fun _ => (J_bipush dX9_behind_9 jc_m2 jb_m2 (J_iret dX9_behind_11 rfl (k2 c1)))))))))))
theorem b_X9_behind_16 {l : Launch} {z d : Nat} {X : jX} {M : Nat → Int → Int} {Q : Option jV → jM → Prop} {x1 : Int} {x2 : Int} {t0 : Int}  (s1 : t0 = 0 → hasB (M 12 4) x1 = true → x2 ≠ 0 → 0 ≤ x1) (s2 : t0 = 0 → hasB (M 12 4) x1 = true → x2 ≠ 0 → x1 < 6) (s3 : t0 = 0 → hasB (M 12 4) x1 = true → x2 = 0 → 0 ≤ x1) (s4 : t0 = 0 → hasB (M 12 4) x1 = true → x2 = 0 → x1 < 6) (k1 : t0 = 0 → hasB (M 12 4) x1 = true → x2 ≠ 0 → Q (some (jI (M 16 x1))) (jG, M)) (k2 : t0 = 0 → hasB (M 12 4) x1 = true → x2 = 0 → Q (some (jI (M 13 x1))) (jG, M)) (k3 : t0 = 0 → hasB (M 12 4) x1 = false → Q (some (jI (-1))) (jG, M)) (k4 : t0 ≠ 0 → Q (some (jI t0)) (jG, M)) : J l z X (d + 6) mX9_behind (0, 0) 16 [jR 0, jI x1, jI x2, jN] [jI t0] (jG, M) Q :=
  (J_istore_n dX9_behind_16 (Nat.le_of_ble_eq_true rfl) (J_iload_n dX9_behind_17 rfl (J_if_eq dX9_behind_18 (tgt := 23) (by decide) (fun c1 => (J_aload_n dX9_behind_23 rfl (J_getR (k := 2) jcl_X9 dX9_behind_24 wf_X9_26 g_0 (Nat.le_of_ble_eq_true rfl) rfl rfl (J_getRN (k := 0) jcl_X0 dX9_behind_27 wf_X9_116 g_11 (Nat.le_of_ble_eq_true rfl) rfl rfl (J_iload_n dX9_behind_30 rfl (J_callV (a1 := (0, 0)) (a2 := (0, 0)) (mm' := mX1_has) (S := []) [jI x1] md_X1_has im_X1_has se_X1_has dX9_behind_31 wm_X9_77 jcl_X1.1 rfl g_12 rfl rfl (Nat.le_of_ble_eq_true rfl) (Nat.le_of_ble_eq_true rfl) rfl (c_X1_has hi_12  (fun c2 => (J_if_ne dX9_behind_34 (tgt := 39) (by decide) (fun _ => (J_iload_n dX9_behind_39 rfl (J_if_ne dX9_behind_40 (tgt := 58) (by decide) (fun c3 => (J_aload_n dX9_behind_58 rfl (J_getR (k := 2) jcl_X9 dX9_behind_59 wf_X9_26 g_0 (Nat.le_of_ble_eq_true rfl) rfl rfl (J_getRN (k := 0) jcl_X0 dX9_behind_62 wf_X9_116 g_11 (Nat.le_of_ble_eq_true rfl) rfl rfl (J_getRN (k := 3) jcl_X1 dX9_behind_65 wf_X9_123 g_12 (Nat.le_of_ble_eq_true rfl) rfl rfl (J_iload_n dX9_behind_68 rfl (J_iald dX9_behind_69 g_16 (s1 c1 c2 c3) (s2 c1 c2 c3) (J_iret dX9_behind_70 rfl (k1 c1 c2 c3))))))))) (fun c3 => (J_aload_n dX9_behind_43 rfl (J_getR (k := 2) jcl_X9 dX9_behind_44 wf_X9_26 g_0 (Nat.le_of_ble_eq_true rfl) rfl rfl (J_getRN (k := 0) jcl_X0 dX9_behind_47 wf_X9_116 g_11 (Nat.le_of_ble_eq_true rfl) rfl rfl (J_getRN (k := 0) jcl_X1 dX9_behind_50 wf_X9_119 g_12 (Nat.le_of_ble_eq_true rfl) rfl rfl (J_iload_n dX9_behind_53 rfl (J_iald dX9_behind_54 g_13 (s3 c1 c2 c3) (s4 c1 c2 c3) (J_goto dX9_behind_55 (tgt := 70) (by decide) (J_iret dX9_behind_70 rfl (k2 c1 c2 c3))))))))))))) (fun c => absurd c (by decide)))) (fun c2 => (J_if_ne dX9_behind_34 (tgt := 39) (by decide) (fun c => absurd c (by decide)) (fun _ => (J_iconst dX9_behind_37 jc_m1 (J_iret dX9_behind_38 rfl (k3 c1 c2))))))))))))) (fun c1 => (J_iload_n dX9_behind_21 rfl (J_iret dX9_behind_22 rfl (k4 c1)))))))
theorem b_X9_basket_0 {l : Launch} {z d : Nat} {X : jX} {M : Nat → Int → Int} {Q : Option jV → jM → Prop}    (k1 : J l z X (d + 5) mX9_liveDays (0, 0) 0 [jR 0] [] (jG, M) (fun r μ => J l z X (d + 6) mX9_basket (0, 0) 4 [jR 0, jN] (r.toList ++ []) μ Q)) : J l z X (d + 6) mX9_basket (0, 0) 0 [jR 0, jN] [] (jG, M) Q :=
  (J_aload_n dX9_basket_0 rfl (J_callV (a1 := (0, 0)) (a2 := (0, 0)) (mm' := mX9_liveDays) (S := []) [] md_X9_liveDays im_X9_liveDays se_X9_liveDays dX9_basket_1 wm_X9_104 jcl_X9.1 rfl g_0 rfl rfl (Nat.le_of_ble_eq_true rfl) (Nat.le_of_ble_eq_true rfl) rfl k1))
theorem b_X9_basket_4 {l : Launch} {z d : Nat} {X : jX} {M : Nat → Int → Int} {Q : Option jV → jM → Prop} {t0 : Int}   (k1 : t0 = 0 → Q (some (jI (M 12 5))) (jG, M)) (k2 : t0 ≠ 0 → Q (some (jI t0)) (jG, M)) : J l z X (d + 6) mX9_basket (0, 0) 4 [jR 0, jN] [jI t0] (jG, M) Q :=
  (J_istore_n dX9_basket_4 (Nat.le_of_ble_eq_true rfl) (J_iload_n dX9_basket_5 rfl (J_if_eq dX9_basket_6 (tgt := 13) (by decide) (fun c1 => (J_aload_n dX9_basket_13 rfl (J_getR (k := 2) jcl_X9 dX9_basket_14 wf_X9_26 g_0 (Nat.le_of_ble_eq_true rfl) rfl rfl (J_getRN (k := 0) jcl_X0 dX9_basket_17 wf_X9_116 g_11 (Nat.le_of_ble_eq_true rfl) rfl rfl (J_getIN (k := 5) (kz := 5) jcl_X1 dX9_basket_20 wf_X9_85 g_12 (Nat.le_of_ble_eq_true rfl) rfl rfl (J_iret dX9_basket_23 rfl (k1 c1))))))) (fun c1 => (J_iload_n dX9_basket_9 rfl (J_goto dX9_basket_10 (tgt := 23) (by decide) (J_iret dX9_basket_23 rfl (k2 c1))))))))
theorem b_X9_passed_0 {l : Launch} {z d : Nat} {X : jX} {M : Nat → Int → Int} {Q : Option jV → jM → Prop} {x1 : Int}   (k1 : 0 ≤ x1 ∧ x1 ≤ 1 → J l z X (d + 5) mX9_liveDays (0, 0) 0 [jR 0] [] (jG, M) (fun r μ => J l z X (d + 6) mX9_passed (0, 0) 16 [jR 0, jI x1, jN] (r.toList ++ []) μ Q)) (k2 : ¬ (0 ≤ x1 ∧ x1 ≤ 1) → Q (some (jI (-2))) (jG, M)) : J l z X (d + 6) mX9_passed (0, 0) 0 [jR 0, jI x1, jN] [] (jG, M) Q :=
  (J_iload_n dX9_passed_0 rfl (J_iconst dX9_passed_1 jc_0 (J_iconst dX9_passed_2 jc_1 (J_callS (a1 := (0, 0)) (a2 := (0, 0)) (mm' := mX9_within) (S := []) [jI x1, jI 0, jI 1] md_X9_within is_X9_within dX9_passed_3 wm_X9_65 rfl rfl (Nat.le_of_ble_eq_true rfl) (Nat.le_of_ble_eq_true rfl) rfl (c_X9_within   (fun c1 => (J_if_ne dX9_passed_6 (tgt := 12) (by decide) (fun _ => (J_aload_n dX9_passed_12 rfl (J_callV (a1 := (0, 0)) (a2 := (0, 0)) (mm' := mX9_liveDays) (S := []) [] md_X9_liveDays im_X9_liveDays se_X9_liveDays dX9_passed_13 wm_X9_104 jcl_X9.1 rfl g_0 rfl rfl (Nat.le_of_ble_eq_true rfl) (Nat.le_of_ble_eq_true rfl) rfl (k1 c1)))) (fun c => absurd c (by decide)))) (fun c1 => (J_if_ne dX9_passed_6 (tgt := 12) (by decide) (fun c => absurd c (by decide)) (fun _ => (J_bipush dX9_passed_9 jc_m2 jb_m2 (J_iret dX9_passed_11 rfl (k2 c1)))))))))))
theorem b_X9_passed_16 {l : Launch} {z d : Nat} {X : jX} {M : Nat → Int → Int} {Q : Option jV → jM → Prop} {x1 : Int} {t0 : Int}   (k1 : t0 = 0 → x1 ≠ 0 → Q (some (jI (M 11 7))) (jG, M)) (k2 : t0 = 0 → x1 = 0 → Q (some (jI (M 11 6))) (jG, M)) (k3 : t0 ≠ 0 → Q (some (jI t0)) (jG, M)) : J l z X (d + 6) mX9_passed (0, 0) 16 [jR 0, jI x1, jN] [jI t0] (jG, M) Q :=
  (J_istore_n dX9_passed_16 (Nat.le_of_ble_eq_true rfl) (J_iload_n dX9_passed_17 rfl (J_if_eq dX9_passed_18 (tgt := 23) (by decide) (fun c1 => (J_iload_n dX9_passed_23 rfl (J_if_ne dX9_passed_24 (tgt := 37) (by decide) (fun c2 => (J_aload_n dX9_passed_37 rfl (J_getR (k := 2) jcl_X9 dX9_passed_38 wf_X9_26 g_0 (Nat.le_of_ble_eq_true rfl) rfl rfl (J_getIN (k := 7) (kz := 7) jcl_X0 dX9_passed_41 wf_X9_129 g_11 (Nat.le_of_ble_eq_true rfl) rfl rfl (J_iret dX9_passed_44 rfl (k1 c1 c2)))))) (fun c2 => (J_aload_n dX9_passed_27 rfl (J_getR (k := 2) jcl_X9 dX9_passed_28 wf_X9_26 g_0 (Nat.le_of_ble_eq_true rfl) rfl rfl (J_getIN (k := 6) (kz := 6) jcl_X0 dX9_passed_31 wf_X9_126 g_11 (Nat.le_of_ble_eq_true rfl) rfl rfl (J_goto dX9_passed_34 (tgt := 44) (by decide) (J_iret dX9_passed_44 rfl (k2 c1 c2)))))))))) (fun c1 => (J_iload_n dX9_passed_21 rfl (J_iret dX9_passed_22 rfl (k3 c1)))))))
theorem b_X9_oldest_0 {l : Launch} {z d : Nat} {X : jX} {M : Nat → Int → Int} {Q : Option jV → jM → Prop} {x1 : Int}   (k1 : J l z X (d + 5) mX9_liveDays (0, 0) 0 [jR 0] [] (jG, M) (fun r μ => J l z X (d + 6) mX9_oldest (0, 0) 4 [jR 0, jI x1, jN] (r.toList ++ []) μ Q)) : J l z X (d + 6) mX9_oldest (0, 0) 0 [jR 0, jI x1, jN] [] (jG, M) Q :=
  (J_aload_n dX9_oldest_0 rfl (J_callV (a1 := (0, 0)) (a2 := (0, 0)) (mm' := mX9_liveDays) (S := []) [] md_X9_liveDays im_X9_liveDays se_X9_liveDays dX9_oldest_1 wm_X9_104 jcl_X9.1 rfl g_0 rfl rfl (Nat.le_of_ble_eq_true rfl) (Nat.le_of_ble_eq_true rfl) rfl k1))
theorem b_X9_oldest_4 {l : Launch} {z d : Nat} {X : jX} {M : Nat → Int → Int} {Q : Option jV → jM → Prop} {x1 : Int} {t0 : Int}  (s1 : t0 = 0 → jIn ((M 11 3) - 1)) (s2 : t0 = 0 → 0 ≤ x1 ∧ x1 ≤ ((M 11 3) - 1) → 0 ≤ x1) (s3 : t0 = 0 → 0 ≤ x1 ∧ x1 ≤ ((M 11 3) - 1) → x1 < 60) (k1 : t0 = 0 → 0 ≤ x1 ∧ x1 ≤ ((M 11 3) - 1) → Q (some (jI (M 18 x1))) (jG, M)) (k2 : t0 = 0 → ¬ (0 ≤ x1 ∧ x1 ≤ ((M 11 3) - 1)) → Q (some (jI (-1))) (jG, M)) (k3 : t0 ≠ 0 → Q (some (jI t0)) (jG, M)) : J l z X (d + 6) mX9_oldest (0, 0) 4 [jR 0, jI x1, jN] [jI t0] (jG, M) Q :=
  (J_istore_n dX9_oldest_4 (Nat.le_of_ble_eq_true rfl) (J_iload_n dX9_oldest_5 rfl (J_if_eq dX9_oldest_6 (tgt := 11) (by decide) (fun c1 => (J_iload_n dX9_oldest_11 rfl (J_iconst dX9_oldest_12 jc_0 (J_aload_n dX9_oldest_13 rfl (J_getR (k := 2) jcl_X9 dX9_oldest_14 wf_X9_26 g_0 (Nat.le_of_ble_eq_true rfl) rfl rfl (J_getIN (k := 3) (kz := 3) jcl_X0 dX9_oldest_17 wf_X9_107 g_11 (Nat.le_of_ble_eq_true rfl) rfl rfl (J_iconst dX9_oldest_20 jc_1 (J_isub dX9_oldest_21 (s1 c1) (J_callS (a1 := (0, 0)) (a2 := (0, 0)) (mm' := mX9_within) (S := []) [jI x1, jI 0, jI ((M 11 3) - 1)] md_X9_within is_X9_within dX9_oldest_22 wm_X9_65 rfl rfl (Nat.le_of_ble_eq_true rfl) (Nat.le_of_ble_eq_true rfl) rfl (c_X9_within   (fun c2 => (J_if_eq dX9_oldest_25 (tgt := 40) (by decide) (fun c => absurd c (by decide)) (fun _ => (J_aload_n dX9_oldest_28 rfl (J_getR (k := 2) jcl_X9 dX9_oldest_29 wf_X9_26 g_0 (Nat.le_of_ble_eq_true rfl) rfl rfl (J_getRN (k := 2) jcl_X0 dX9_oldest_32 wf_X9_132 g_11 (Nat.le_of_ble_eq_true rfl) rfl rfl (J_iload_n dX9_oldest_35 rfl (J_iald dX9_oldest_36 g_18 (s2 c1 c2) (s3 c1 c2) (J_goto dX9_oldest_37 (tgt := 41) (by decide) (J_iret dX9_oldest_41 rfl (k1 c1 c2))))))))))) (fun c2 => (J_if_eq dX9_oldest_25 (tgt := 40) (by decide) (fun _ => (J_iconst dX9_oldest_40 jc_m1 (J_iret dX9_oldest_41 rfl (k2 c1 c2)))) (fun c => absurd c (by decide)))))))))))))) (fun c1 => (J_iload_n dX9_oldest_9 rfl (J_iret dX9_oldest_10 rfl (k3 c1)))))))
theorem b_X9_done_0 {l : Launch} {z d : Nat} {X : jX} {M : Nat → Int → Int} {Q : Option jV → jM → Prop}    (k1 : J l z X (d + 5) mX9_liveDays (0, 0) 0 [jR 0] [] (jG, M) (fun r μ => J l z X (d + 6) mX9_done (0, 0) 4 [jR 0, jN] (r.toList ++ []) μ Q)) : J l z X (d + 6) mX9_done (0, 0) 0 [jR 0, jN] [] (jG, M) Q :=
  (J_aload_n dX9_done_0 rfl (J_callV (a1 := (0, 0)) (a2 := (0, 0)) (mm' := mX9_liveDays) (S := []) [] md_X9_liveDays im_X9_liveDays se_X9_liveDays dX9_done_1 wm_X9_104 jcl_X9.1 rfl g_0 rfl rfl (Nat.le_of_ble_eq_true rfl) (Nat.le_of_ble_eq_true rfl) rfl k1))
theorem b_X9_done_4 {l : Launch} {z d : Nat} {X : jX} {M : Nat → Int → Int} {Q : Option jV → jM → Prop} {t0 : Int}   (k1 : t0 = 0 → J l z X (d + 5) mX1_takeOver (0, 0) 0 [jR 1, jR 12] [] (jG, M) (fun r μ => J l z X (d + 6) mX9_done (0, 0) 25 [jR 0, jI t0] (r.toList ++ []) μ Q)) (k2 : t0 ≠ 0 → Q (some (jI t0)) (jG, M)) : J l z X (d + 6) mX9_done (0, 0) 4 [jR 0, jN] [jI t0] (jG, M) Q :=
  (J_istore_n dX9_done_4 (Nat.le_of_ble_eq_true rfl) (J_iload_n dX9_done_5 rfl (J_if_eq dX9_done_6 (tgt := 11) (by decide) (fun c1 => (J_aload_n dX9_done_11 rfl (J_getR (k := 0) jcl_X9 dX9_done_12 wf_X9_12 g_0 (Nat.le_of_ble_eq_true rfl) rfl rfl (J_aload_n dX9_done_15 rfl (J_getR (k := 2) jcl_X9 dX9_done_16 wf_X9_26 g_0 (Nat.le_of_ble_eq_true rfl) rfl rfl (J_getRN (k := 0) jcl_X0 dX9_done_19 wf_X9_116 g_11 (Nat.le_of_ble_eq_true rfl) rfl rfl (J_callV (a1 := (0, 0)) (a2 := (0, 0)) (mm' := mX1_takeOver) (S := []) [jR 12] md_X1_takeOver im_X1_takeOver se_X1_takeOver dX9_done_22 wm_X9_135 jcl_X1.1 rfl g_1 rfl rfl (Nat.le_of_ble_eq_true rfl) (Nat.le_of_ble_eq_true rfl) rfl (k1 c1)))))))) (fun c1 => (J_iload_n dX9_done_9 rfl (J_iret dX9_done_10 rfl (k2 c1)))))))
theorem b_X9_done_25 {l : Launch} {z d : Nat} {X : jX} {M : Nat → Int → Int} {Q : Option jV → jM → Prop} {x1 : Int}   (k1 : Q (some (jI ((jupd M 6 4 0) 6 5))) (jG, (jupd M 6 4 0))) : J l z X (d + 6) mX9_done (0, 0) 25 [jR 0, jI x1] [] (jG, M) Q :=
  (J_aload_n dX9_done_25 rfl (J_getR (k := 1) jcl_X9 dX9_done_26 wf_X9_19 g_0 (Nat.le_of_ble_eq_true rfl) rfl rfl (J_iconst dX9_done_29 jc_0 (J_putIN (k := 4) (kz := 4) jcl_X4 dX9_done_30 wf_X9_98 g_6 (Nat.le_of_ble_eq_true rfl) rfl rfl rfl (J_aload_n dX9_done_33 rfl (J_getR (k := 1) jcl_X9 dX9_done_34 wf_X9_19 g_0 (Nat.le_of_ble_eq_true rfl) rfl rfl (J_getIN (k := 5) (kz := 5) jcl_X4 dX9_done_37 wf_X9_139 g_6 (Nat.le_of_ble_eq_true rfl) rfl rfl (J_iret dX9_done_40 rfl k1))))))))
theorem b_X9_lasts_0 {l : Launch} {z d : Nat} {X : jX} {M : Nat → Int → Int} {Q : Option jV → jM → Prop} {x1 : Int} {x2 : Int}  (s1 : hasB (M 1 4) x1 = true → 0 ≤ x2 ∧ x2 ≤ 99 → x2 ≠ 99 → 0 ≤ x1) (s2 : hasB (M 1 4) x1 = true → 0 ≤ x2 ∧ x2 ≤ 99 → x2 ≠ 99 → x1 < 6) (s3 : hasB (M 1 4) x1 = true → 0 ≤ x2 ∧ x2 ≤ 99 → x2 ≠ 99 → jIn (x2 - (M 2 x1))) (s4 : hasB (M 1 4) x1 = true → 0 ≤ x2 ∧ x2 ≤ 99 → x2 ≠ 99 → 0 ≤ (x2 - (M 2 x1)) → 1 ≤ (M 3 x1) → 0 ≤ (x2 - (M 2 x1))) (s5 : hasB (M 1 4) x1 = true → 0 ≤ x2 ∧ x2 ≤ 99 → x2 ≠ 99 → 0 ≤ (x2 - (M 2 x1)) → 1 ≤ (M 3 x1) → 0 < (M 3 x1)) (k1 : hasB (M 1 4) x1 = true → 0 ≤ x2 ∧ x2 ≤ 99 → x2 ≠ 99 → (x2 - (M 2 x1)) < 0 → Q (some (jI (-6))) (jG, M)) (k2 : hasB (M 1 4) x1 = true → 0 ≤ x2 ∧ x2 ≤ 99 → x2 ≠ 99 → 0 ≤ (x2 - (M 2 x1)) → 1 ≤ (M 3 x1) → Q (some (jI ((x2 - (M 2 x1)) / (M 3 x1)))) (jG, M)) (k3 : hasB (M 1 4) x1 = true → 0 ≤ x2 ∧ x2 ≤ 99 → x2 ≠ 99 → 0 ≤ (x2 - (M 2 x1)) → (M 3 x1) < 1 → Q (some (jI (-6))) (jG, M)) (k4 : hasB (M 1 4) x1 = true → 0 ≤ x2 ∧ x2 ≤ 99 → x2 = 99 → Q (some (jI 100)) (jG, M)) (k5 : hasB (M 1 4) x1 = true → ¬ (0 ≤ x2 ∧ x2 ≤ 99) → Q (some (jI (-2))) (jG, M)) (k6 : hasB (M 1 4) x1 = false → Q (some (jI (-1))) (jG, M)) : J l z X (d + 1) mX9_lasts (0, 0) 0 [jR 0, jI x1, jI x2, jN, jN] [] (jG, M) Q :=
  (J_aload_n dX9_lasts_0 rfl (J_getR (k := 0) jcl_X9 dX9_lasts_1 wf_X9_12 g_0 (Nat.le_of_ble_eq_true rfl) rfl rfl (J_iload_n dX9_lasts_4 rfl (J_callV (a1 := (0, 0)) (a2 := (0, 0)) (mm' := mX1_has) (S := []) [jI x1] md_X1_has im_X1_has se_X1_has dX9_lasts_5 wm_X9_77 jcl_X1.1 rfl g_1 rfl rfl (Nat.le_of_ble_eq_true rfl) (Nat.le_of_ble_eq_true rfl) rfl (c_X1_has hi_1  (fun c1 => (J_if_ne dX9_lasts_8 (tgt := 13) (by decide) (fun _ => (J_iload_n dX9_lasts_13 rfl (J_iconst dX9_lasts_14 jc_0 (J_bipush dX9_lasts_15 jc_99 jb_99 (J_callS (a1 := (0, 0)) (a2 := (0, 0)) (mm' := mX9_within) (S := []) [jI x2, jI 0, jI 99] md_X9_within is_X9_within dX9_lasts_17 wm_X9_65 rfl rfl (Nat.le_of_ble_eq_true rfl) (Nat.le_of_ble_eq_true rfl) rfl (c_X9_within   (fun c2 => (J_if_ne dX9_lasts_20 (tgt := 26) (by decide) (fun _ => (J_iload_n dX9_lasts_26 rfl (J_bipush dX9_lasts_27 jc_99 jb_99 (J_icmp_ne dX9_lasts_29 (tgt := 35) (by decide) (fun c3 => (J_iload_n dX9_lasts_35 rfl (J_aload_n dX9_lasts_36 rfl (J_getR (k := 0) jcl_X9 dX9_lasts_37 wf_X9_12 g_0 (Nat.le_of_ble_eq_true rfl) rfl rfl (J_getRN (k := 0) jcl_X1 dX9_lasts_40 wf_X9_119 g_1 (Nat.le_of_ble_eq_true rfl) rfl rfl (J_iload_n dX9_lasts_43 rfl (J_iald dX9_lasts_44 g_2 (s1 c1 c2 c3) (s2 c1 c2 c3) (J_isub dX9_lasts_45 (s3 c1 c2 c3) (J_istore_n dX9_lasts_46 (Nat.le_of_ble_eq_true rfl) (J_aload_n dX9_lasts_47 rfl (J_getR (k := 0) jcl_X9 dX9_lasts_48 wf_X9_12 g_0 (Nat.le_of_ble_eq_true rfl) rfl rfl (J_getRN (k := 1) jcl_X1 dX9_lasts_51 wf_X9_142 g_1 (Nat.le_of_ble_eq_true rfl) rfl rfl (J_iload_n dX9_lasts_54 rfl (J_iald dX9_lasts_55 g_3 (s1 c1 c2 c3) (s2 c1 c2 c3) (J_istore dX9_lasts_56 (Nat.le_of_ble_eq_true rfl) (J_iload_n dX9_lasts_58 rfl (J_if_lt dX9_lasts_59 (tgt := 68) (by decide) (fun c4 => (J_bipush dX9_lasts_68 jc_m6 jb_m6 (J_goto dX9_lasts_70 (tgt := 77) (by decide) (J_iret dX9_lasts_77 rfl (k1 c1 c2 c3 c4))))) (fun c4 => (J_iload dX9_lasts_62 rfl (J_iconst dX9_lasts_64 jc_1 (J_icmp_ge dX9_lasts_65 (tgt := 73) (by decide) (fun c5 => (J_iload_n dX9_lasts_73 rfl (J_iload dX9_lasts_74 rfl (J_idiv dX9_lasts_76 (s4 c1 c2 c3 c4 c5) (s5 c1 c2 c3 c4 c5) (J_iret dX9_lasts_77 rfl (k2 c1 c2 c3 c4 c5)))))) (fun c5 => (J_bipush dX9_lasts_68 jc_m6 jb_m6 (J_goto dX9_lasts_70 (tgt := 77) (by decide) (J_iret dX9_lasts_77 rfl (k3 c1 c2 c3 c4 c5)))))))))))))))))))))))))) (fun c3 => (J_bipush dX9_lasts_32 jc_100 jb_100 (J_iret dX9_lasts_34 rfl (k4 c1 c2 c3)))))))) (fun c => absurd c (by decide)))) (fun c2 => (J_if_ne dX9_lasts_20 (tgt := 26) (by decide) (fun c => absurd c (by decide)) (fun _ => (J_bipush dX9_lasts_23 jc_m2 jb_m2 (J_iret dX9_lasts_25 rfl (k5 c1 c2)))))))))))) (fun c => absurd c (by decide)))) (fun c1 => (J_if_ne dX9_lasts_8 (tgt := 13) (by decide) (fun c => absurd c (by decide)) (fun _ => (J_iconst dX9_lasts_11 jc_m1 (J_iret dX9_lasts_12 rfl (k6 c1)))))))))))
theorem b_X9_keeps_0 {l : Launch} {z d : Nat} {X : jX} {M : Nat → Int → Int} {Q : Option jV → jM → Prop} {x1 : Int} {x2 : Int} {x3 : Int} {x4 : Int}   (k1 : J l z X (d + 4) mX9_refuseKeeping (0, 0) 0 [jR 0, jI x1, jI x2, jI x3, jI x4] [] (jG, M) (fun r μ => J l z X (d + 5) mX9_keeps (0, 0) 9 [jR 0, jI x1, jI x2, jI x3, jI x4, jN] (r.toList ++ []) μ Q)) : J l z X (d + 5) mX9_keeps (0, 0) 0 [jR 0, jI x1, jI x2, jI x3, jI x4, jN] [] (jG, M) Q :=
  (J_aload_n dX9_keeps_0 rfl (J_iload_n dX9_keeps_1 rfl (J_iload_n dX9_keeps_2 rfl (J_iload_n dX9_keeps_3 rfl (J_iload dX9_keeps_4 rfl (J_callV (a1 := (0, 0)) (a2 := (0, 0)) (mm' := mX9_refuseKeeping) (S := []) [jI x1, jI x2, jI x3, jI x4] md_X9_refuseKeeping im_X9_refuseKeeping se_X9_refuseKeeping dX9_keeps_6 wm_X9_145 jcl_X9.1 rfl g_0 rfl rfl (Nat.le_of_ble_eq_true rfl) (Nat.le_of_ble_eq_true rfl) rfl k1))))))
theorem b_X9_keeps_9 {l : Launch} {z d : Nat} {X : jX} {M : Nat → Int → Int} {Q : Option jV → jM → Prop} {x1 : Int} {x2 : Int} {x3 : Int} {x4 : Int} {t0 : Int}   (k1 : t0 = 0 → J l z X (d + 4) mX3_solve (0, 0) 0 [jR 19, jR 1, jI x1, jI x2, jI x3, jI x4, jN] [] (jG, M) (fun r μ => J l z X (d + 5) mX9_keeps (0, 0) 35 [jR 0, jI x1, jI x2, jI x3, jI x4, jI t0] (r.toList ++ []) μ Q)) (k2 : t0 ≠ 0 → Q (some (jI t0)) (jG, M)) : J l z X (d + 5) mX9_keeps (0, 0) 9 [jR 0, jI x1, jI x2, jI x3, jI x4, jN] [jI t0] (jG, M) Q :=
  (J_istore dX9_keeps_9 (Nat.le_of_ble_eq_true rfl) (J_iload dX9_keeps_11 rfl (J_if_eq dX9_keeps_13 (tgt := 19) (by decide) (fun c1 => (J_aload_n dX9_keeps_19 rfl (J_getR (k := 3) jcl_X9 dX9_keeps_20 wf_X9_33 g_0 (Nat.le_of_ble_eq_true rfl) rfl rfl (J_aload_n dX9_keeps_23 rfl (J_getR (k := 0) jcl_X9 dX9_keeps_24 wf_X9_12 g_0 (Nat.le_of_ble_eq_true rfl) rfl rfl (J_iload_n dX9_keeps_27 rfl (J_iload_n dX9_keeps_28 rfl (J_iload_n dX9_keeps_29 rfl (J_iload dX9_keeps_30 rfl (J_callV (a1 := (0, 0)) (a2 := (0, 0)) (mm' := mX3_solve) (S := []) [jR 1, jI x1, jI x2, jI x3, jI x4] md_X3_solve im_X3_solve se_X3_solve dX9_keeps_32 wm_X9_149 jcl_X3.1 rfl g_19 rfl rfl (Nat.le_of_ble_eq_true rfl) (Nat.le_of_ble_eq_true rfl) rfl (k1 c1))))))))))) (fun c1 => (J_iload dX9_keeps_16 rfl (J_iret dX9_keeps_18 rfl (k2 c1)))))))
theorem b_X9_keeps_35 {l : Launch} {z d : Nat} {X : jX} {M : Nat → Int → Int} {Q : Option jV → jM → Prop} {x1 : Int} {x2 : Int} {x3 : Int} {x4 : Int} {x5 : Int} {t0 : Int}   (k1 : Q (some (jI t0)) (jG, M)) : J l z X (d + 5) mX9_keeps (0, 0) 35 [jR 0, jI x1, jI x2, jI x3, jI x4, jI x5] [jI t0] (jG, M) Q :=
  (J_iret dX9_keeps_35 rfl k1)
theorem b_X9_plan_0 {l : Launch} {z d : Nat} {X : jX} {M : Nat → Int → Int} {Q : Option jV → jM → Prop} {x1 : Int} {x2 : Int} {x3 : Int} {x4 : Int} {x5 : Int} {x6 : Int}   (k1 : J l z X (d + 4) mX9_refuseKeeping (0, 0) 0 [jR 0, jI x1, jI x2, jI x3, jI x4] [] (jG, M) (fun r μ => J l z X (d + 5) mX9_plan (0, 0) 9 [jR 0, jI x1, jI x2, jI x3, jI x4, jI x5, jI x6, jN] (r.toList ++ []) μ Q)) : J l z X (d + 5) mX9_plan (0, 0) 0 [jR 0, jI x1, jI x2, jI x3, jI x4, jI x5, jI x6, jN] [] (jG, M) Q :=
  (J_aload_n dX9_plan_0 rfl (J_iload_n dX9_plan_1 rfl (J_iload_n dX9_plan_2 rfl (J_iload_n dX9_plan_3 rfl (J_iload dX9_plan_4 rfl (J_callV (a1 := (0, 0)) (a2 := (0, 0)) (mm' := mX9_refuseKeeping) (S := []) [jI x1, jI x2, jI x3, jI x4] md_X9_refuseKeeping im_X9_refuseKeeping se_X9_refuseKeeping dX9_plan_6 wm_X9_145 jcl_X9.1 rfl g_0 rfl rfl (Nat.le_of_ble_eq_true rfl) (Nat.le_of_ble_eq_true rfl) rfl k1))))))
theorem b_X9_plan_9 {l : Launch} {z d : Nat} {X : jX} {M : Nat → Int → Int} {Q : Option jV → jM → Prop} {x1 : Int} {x2 : Int} {x3 : Int} {x4 : Int} {x5 : Int} {x6 : Int} {t0 : Int}  (s1 : t0 = 0 → 0 ≤ x6 ∧ x6 ≤ 5 → (jand (jshr x1 x6) 1) ≠ 0 → jIn (x2 - 1)) (k1 : t0 = 0 → 0 ≤ x6 ∧ x6 ≤ 5 → (jand (jshr x1 x6) 1) = 0 → Q (some (jI (-1))) (jG, M)) (k2 : t0 = 0 → 0 ≤ x6 ∧ x6 ≤ 5 → (jand (jshr x1 x6) 1) ≠ 0 → 0 ≤ x5 ∧ x5 ≤ (x2 - 1) → J l z X (d + 4) mX3_solve (0, 0) 0 [jR 19, jR 1, jI x1, jI x2, jI x3, jI x4, jN] [] (jG, M) (fun r μ => J l z X (d + 5) mX9_plan (0, 0) 68 [jR 0, jI x1, jI x2, jI x3, jI x4, jI x5, jI x6, jI t0] (r.toList ++ []) μ Q)) (k3 : t0 = 0 → 0 ≤ x6 ∧ x6 ≤ 5 → (jand (jshr x1 x6) 1) ≠ 0 → ¬ (0 ≤ x5 ∧ x5 ≤ (x2 - 1)) → Q (some (jI (-1))) (jG, M)) (k4 : t0 = 0 → ¬ (0 ≤ x6 ∧ x6 ≤ 5) → Q (some (jI (-1))) (jG, M)) (k5 : t0 ≠ 0 → Q (some (jI t0)) (jG, M)) : J l z X (d + 5) mX9_plan (0, 0) 9 [jR 0, jI x1, jI x2, jI x3, jI x4, jI x5, jI x6, jN] [jI t0] (jG, M) Q :=
  (J_istore dX9_plan_9 (Nat.le_of_ble_eq_true rfl) (J_iload dX9_plan_11 rfl (J_if_eq dX9_plan_13 (tgt := 19) (by decide) (fun c1 => (J_iload dX9_plan_19 rfl (J_iconst dX9_plan_21 jc_0 (J_iconst dX9_plan_22 jc_5 (J_callS (a1 := (0, 0)) (a2 := (0, 0)) (mm' := mX9_within) (S := []) [jI x6, jI 0, jI 5] md_X9_within is_X9_within dX9_plan_23 wm_X9_65 rfl rfl (Nat.le_of_ble_eq_true rfl) (Nat.le_of_ble_eq_true rfl) rfl (c_X9_within   (fun c2 => (J_if_eq dX9_plan_26 (tgt := 50) (by decide) (fun c => absurd c (by decide)) (fun _ => (J_iload_n dX9_plan_29 rfl (J_iload dX9_plan_30 rfl (J_ishr dX9_plan_32 (J_iconst dX9_plan_33 jc_1 (J_iand dX9_plan_34 (J_if_eq dX9_plan_35 (tgt := 50) (by decide) (fun c3 => (J_iconst dX9_plan_50 jc_m1 (J_iret dX9_plan_51 rfl (k1 c1 c2 c3)))) (fun c3 => (J_iload dX9_plan_38 rfl (J_iconst dX9_plan_40 jc_0 (J_iload_n dX9_plan_41 rfl (J_iconst dX9_plan_42 jc_1 (J_isub dX9_plan_43 (s1 c1 c2 c3) (J_callS (a1 := (0, 0)) (a2 := (0, 0)) (mm' := mX9_within) (S := []) [jI x5, jI 0, jI (x2 - 1)] md_X9_within is_X9_within dX9_plan_44 wm_X9_65 rfl rfl (Nat.le_of_ble_eq_true rfl) (Nat.le_of_ble_eq_true rfl) rfl (c_X9_within   (fun c4 => (J_if_ne dX9_plan_47 (tgt := 52) (by decide) (fun _ => (J_aload_n dX9_plan_52 rfl (J_getR (k := 3) jcl_X9 dX9_plan_53 wf_X9_33 g_0 (Nat.le_of_ble_eq_true rfl) rfl rfl (J_aload_n dX9_plan_56 rfl (J_getR (k := 0) jcl_X9 dX9_plan_57 wf_X9_12 g_0 (Nat.le_of_ble_eq_true rfl) rfl rfl (J_iload_n dX9_plan_60 rfl (J_iload_n dX9_plan_61 rfl (J_iload_n dX9_plan_62 rfl (J_iload dX9_plan_63 rfl (J_callV (a1 := (0, 0)) (a2 := (0, 0)) (mm' := mX3_solve) (S := []) [jR 1, jI x1, jI x2, jI x3, jI x4] md_X3_solve im_X3_solve se_X3_solve dX9_plan_65 wm_X9_149 jcl_X3.1 rfl g_19 rfl rfl (Nat.le_of_ble_eq_true rfl) (Nat.le_of_ble_eq_true rfl) rfl (k2 c1 c2 c3 c4))))))))))) (fun c => absurd c (by decide)))) (fun c4 => (J_if_ne dX9_plan_47 (tgt := 52) (by decide) (fun c => absurd c (by decide)) (fun _ => (J_iconst dX9_plan_50 jc_m1 (J_iret dX9_plan_51 rfl (k3 c1 c2 c3 c4))))))))))))))))))))))) (fun c2 => (J_if_eq dX9_plan_26 (tgt := 50) (by decide) (fun _ => (J_iconst dX9_plan_50 jc_m1 (J_iret dX9_plan_51 rfl (k4 c1 c2)))) (fun c => absurd c (by decide)))))))))) (fun c1 => (J_iload dX9_plan_16 rfl (J_iret dX9_plan_18 rfl (k5 c1)))))))
theorem b_X9_plan_68 {l : Launch} {z d : Nat} {X : jX} {M : Nat → Int → Int} {Q : Option jV → jM → Prop} {x1 : Int} {x2 : Int} {x3 : Int} {x4 : Int} {x5 : Int} {x6 : Int} {x7 : Int} {t0 : Int}   (k1 : t0 ≠ (-6) → J l z X (d + 4) mX3_eats (0, 0) 0 [jR 19, jI x5, jI x6, jN] [] (jG, M) (fun r μ => J l z X (d + 5) mX9_plan (0, 0) 89 [jR 0, jI x1, jI x2, jI x3, jI x4, jI x5, jI x6, jI x7] (r.toList ++ []) μ Q)) (k2 : t0 = (-6) → J l z X (d + 5) mX9_plan (0, 0) 89 [jR 0, jI x1, jI x2, jI x3, jI x4, jI x5, jI x6, jI x7] [jI (-6)] (jG, M) Q) : J l z X (d + 5) mX9_plan (0, 0) 68 [jR 0, jI x1, jI x2, jI x3, jI x4, jI x5, jI x6, jI x7] [jI t0] (jG, M) Q :=
  (J_bipush dX9_plan_68 jc_m6 jb_m6 (J_icmp_ne dX9_plan_70 (tgt := 78) (by decide) (fun c1 => (J_aload_n dX9_plan_78 rfl (J_getR (k := 3) jcl_X9 dX9_plan_79 wf_X9_33 g_0 (Nat.le_of_ble_eq_true rfl) rfl rfl (J_iload dX9_plan_82 rfl (J_iload dX9_plan_84 rfl (J_callV (a1 := (0, 0)) (a2 := (0, 0)) (mm' := mX3_eats) (S := []) [jI x5, jI x6] md_X3_eats im_X3_eats se_X3_eats dX9_plan_86 wm_X9_153 jcl_X3.1 rfl g_19 rfl rfl (Nat.le_of_ble_eq_true rfl) (Nat.le_of_ble_eq_true rfl) rfl (k1 c1))))))) (fun c1 => (J_bipush dX9_plan_73 jc_m6 jb_m6 (J_goto dX9_plan_75 (tgt := 89) (by decide) (k2 c1))))))
theorem b_X9_plan_89 {l : Launch} {z d : Nat} {X : jX} {M : Nat → Int → Int} {Q : Option jV → jM → Prop} {x1 : Int} {x2 : Int} {x3 : Int} {x4 : Int} {x5 : Int} {x6 : Int} {x7 : Int} {t0 : Int}   (k1 : Q (some (jI t0)) (jG, M)) : J l z X (d + 5) mX9_plan (0, 0) 89 [jR 0, jI x1, jI x2, jI x3, jI x4, jI x5, jI x6, jI x7] [jI t0] (jG, M) Q :=
  (J_iret dX9_plan_89 rfl k1)
theorem b_X9_envy_0 {l : Launch} {z d : Nat} {X : jX} {M : Nat → Int → Int} {Q : Option jV → jM → Prop} {x1 : Int} {x2 : Int}   (k1 : 0 ≤ x1 ∧ x1 ≤ 12 → 0 ≤ x2 ∧ x2 ≤ 1 → J l z X (d + 4) mX5_weigh (0, 0) 0 [jR 66, jR 1, jI x1] [] (jG, M) (fun r μ => J l z X (d + 5) mX9_envy (0, 0) 34 [jR 0, jI x1, jI x2] (r.toList ++ []) μ Q)) (k2 : 0 ≤ x1 ∧ x1 ≤ 12 → ¬ (0 ≤ x2 ∧ x2 ≤ 1) → Q (some (jI (-2))) (jG, M)) (k3 : ¬ (0 ≤ x1 ∧ x1 ≤ 12) → Q (some (jI (-2))) (jG, M)) : J l z X (d + 5) mX9_envy (0, 0) 0 [jR 0, jI x1, jI x2] [] (jG, M) Q :=
  (J_iload_n dX9_envy_0 rfl (J_iconst dX9_envy_1 jc_0 (J_bipush dX9_envy_2 jc_12 jb_12 (J_callS (a1 := (0, 0)) (a2 := (0, 0)) (mm' := mX9_within) (S := []) [jI x1, jI 0, jI 12] md_X9_within is_X9_within dX9_envy_4 wm_X9_65 rfl rfl (Nat.le_of_ble_eq_true rfl) (Nat.le_of_ble_eq_true rfl) rfl (c_X9_within   (fun c1 => (J_if_eq dX9_envy_7 (tgt := 19) (by decide) (fun c => absurd c (by decide)) (fun _ => (J_iload_n dX9_envy_10 rfl (J_iconst dX9_envy_11 jc_0 (J_iconst dX9_envy_12 jc_1 (J_callS (a1 := (0, 0)) (a2 := (0, 0)) (mm' := mX9_within) (S := []) [jI x2, jI 0, jI 1] md_X9_within is_X9_within dX9_envy_13 wm_X9_65 rfl rfl (Nat.le_of_ble_eq_true rfl) (Nat.le_of_ble_eq_true rfl) rfl (c_X9_within   (fun c2 => (J_if_ne dX9_envy_16 (tgt := 22) (by decide) (fun _ => (J_aload_n dX9_envy_22 rfl (J_getR (k := 4) jcl_X9 dX9_envy_23 wf_X9_40 g_0 (Nat.le_of_ble_eq_true rfl) rfl rfl (J_aload_n dX9_envy_26 rfl (J_getR (k := 0) jcl_X9 dX9_envy_27 wf_X9_12 g_0 (Nat.le_of_ble_eq_true rfl) rfl rfl (J_iload_n dX9_envy_30 rfl (J_callV (a1 := (0, 0)) (a2 := (0, 0)) (mm' := mX5_weigh) (S := []) [jR 1, jI x1] md_X5_weigh im_X5_weigh se_X5_weigh dX9_envy_31 wm_X9_157 jcl_X5.1 rfl g_66 rfl rfl (Nat.le_of_ble_eq_true rfl) (Nat.le_of_ble_eq_true rfl) rfl (k1 c1 c2)))))))) (fun c => absurd c (by decide)))) (fun c2 => (J_if_ne dX9_envy_16 (tgt := 22) (by decide) (fun c => absurd c (by decide)) (fun _ => (J_bipush dX9_envy_19 jc_m2 jb_m2 (J_iret dX9_envy_21 rfl (k2 c1 c2)))))))))))))) (fun c1 => (J_if_eq dX9_envy_7 (tgt := 19) (by decide) (fun _ => (J_bipush dX9_envy_19 jc_m2 jb_m2 (J_iret dX9_envy_21 rfl (k3 c1)))) (fun c => absurd c (by decide)))))))))
theorem b_X9_envy_34 {l : Launch} {z d : Nat} {X : jX} {M : Nat → Int → Int} {Q : Option jV → jM → Prop} {x1 : Int} {x2 : Int}   (k1 : x2 ≠ 0 → Q (some (jI (M 66 2))) (jG, M)) (k2 : x2 = 0 → Q (some (jI (M 66 1))) (jG, M)) : J l z X (d + 5) mX9_envy (0, 0) 34 [jR 0, jI x1, jI x2] [] (jG, M) Q :=
  (J_iload_n dX9_envy_34 rfl (J_if_ne dX9_envy_35 (tgt := 48) (by decide) (fun c1 => (J_aload_n dX9_envy_48 rfl (J_getR (k := 4) jcl_X9 dX9_envy_49 wf_X9_40 g_0 (Nat.le_of_ble_eq_true rfl) rfl rfl (J_getIN (k := 2) (kz := 2) jcl_X5 dX9_envy_52 wf_X9_164 g_66 (Nat.le_of_ble_eq_true rfl) rfl rfl (J_iret dX9_envy_55 rfl (k1 c1)))))) (fun c1 => (J_aload_n dX9_envy_38 rfl (J_getR (k := 4) jcl_X9 dX9_envy_39 wf_X9_40 g_0 (Nat.le_of_ble_eq_true rfl) rfl rfl (J_getIN (k := 1) (kz := 1) jcl_X5 dX9_envy_42 wf_X9_161 g_66 (Nat.le_of_ble_eq_true rfl) rfl rfl (J_goto dX9_envy_45 (tgt := 55) (by decide) (J_iret dX9_envy_55 rfl (k2 c1)))))))))
theorem b_X9_refuses_0 {l : Launch} {z d : Nat} {X : jX} {M : Nat → Int → Int} {Q : Option jV → jM → Prop} {x1 : Int}   (k1 : 0 ≤ x1 ∧ x1 ≤ 60 → J l z X (d + 1) mX9_refuses (0, 0) 17 [jR 0, jI x1, jI 0, jI 0, jN, jN, jN] [] (jG, M) Q) (k2 : ¬ (0 ≤ x1 ∧ x1 ≤ 60) → Q (some (jI (-2))) (jG, M)) : J l z X (d + 1) mX9_refuses (0, 0) 0 [jR 0, jI x1, jN, jN, jN, jN, jN] [] (jG, M) Q :=
  (J_iload_n dX9_refuses_0 rfl (J_iconst dX9_refuses_1 jc_0 (J_bipush dX9_refuses_2 jc_60 jb_60 (J_callS (a1 := (0, 0)) (a2 := (0, 0)) (mm' := mX9_within) (S := []) [jI x1, jI 0, jI 60] md_X9_within is_X9_within dX9_refuses_4 wm_X9_65 rfl rfl (Nat.le_of_ble_eq_true rfl) (Nat.le_of_ble_eq_true rfl) rfl (c_X9_within   (fun c1 => (J_if_ne dX9_refuses_7 (tgt := 13) (by decide) (fun _ => (J_iconst dX9_refuses_13 jc_0 (J_istore_n dX9_refuses_14 (Nat.le_of_ble_eq_true rfl) (J_iconst dX9_refuses_15 jc_0 (J_istore_n dX9_refuses_16 (Nat.le_of_ble_eq_true rfl) (k1 c1)))))) (fun c => absurd c (by decide)))) (fun c1 => (J_if_ne dX9_refuses_7 (tgt := 13) (by decide) (fun c => absurd c (by decide)) (fun _ => (J_bipush dX9_refuses_10 jc_m2 jb_m2 (J_iret dX9_refuses_12 rfl (k2 c1)))))))))))
theorem b_X9_refuses_17 {l : Launch} {z d : Nat} {X : jX} {M : Nat → Int → Int} {Q : Option jV → jM → Prop} {x1 : Int} {x2 : Int} {x3 : Int}  (s1 : x3 < 6 → hasB (M 1 4) x3 = true → 0 ≤ x3) (s2 : x3 < 6 → hasB (M 1 4) x3 = true → x3 < 6) (s3 : x3 < 6 → hasB (M 1 4) x3 = true → jIn (x1 * (M 3 x3))) (s4 : x3 < 6 → hasB (M 1 4) x3 = true → jIn ((M 2 x3) + (x1 * (M 3 x3)))) (s5 : x3 < 6 → hasB (M 1 4) x3 = true → jIn ((M 2 x3) - (x1 * (M 3 x3)))) (s6 : x3 < 6 → hasB (M 1 4) x3 = true → jIn ((min 99 ((M 2 x3) + (x1 * (M 3 x3)))) - (max (M 4 x3) ((M 2 x3) - (x1 * (M 3 x3)))))) (s7 : x3 < 6 → hasB (M 1 4) x3 = true → jIn (x2 + ((min 99 ((M 2 x3) + (x1 * (M 3 x3)))) - (max (M 4 x3) ((M 2 x3) - (x1 * (M 3 x3))))))) (k1 : 6 ≤ x3 → Q (some (jI x2)) (jG, M)) (k2 : x3 < 6 → hasB (M 1 4) x3 = true → J l z X (d + 1) mX9_refuses (0, 0) 100 [jR 0, jI x1, jI (x2 + ((min 99 ((M 2 x3) + (x1 * (M 3 x3)))) - (max (M 4 x3) ((M 2 x3) - (x1 * (M 3 x3)))))), jI x3, jN, jN, jN] [] (jG, M) Q) (k3 : x3 < 6 → hasB (M 1 4) x3 = false → J l z X (d + 1) mX9_refuses (0, 0) 100 [jR 0, jI x1, jI x2, jI x3, jN, jN, jN] [] (jG, M) Q) : J l z X (d + 1) mX9_refuses (0, 0) 17 [jR 0, jI x1, jI x2, jI x3, jN, jN, jN] [] (jG, M) Q :=
  (J_iload_n dX9_refuses_17 rfl (J_bipush dX9_refuses_18 jc_6 jb_6 (J_icmp_ge dX9_refuses_20 (tgt := 106) (by decide) (fun c1 => (J_iload_n dX9_refuses_106 rfl (J_iret dX9_refuses_107 rfl (k1 c1)))) (fun c1 => (J_aload_n dX9_refuses_23 rfl (J_getR (k := 0) jcl_X9 dX9_refuses_24 wf_X9_12 g_0 (Nat.le_of_ble_eq_true rfl) rfl rfl (J_iload_n dX9_refuses_27 rfl (J_callV (a1 := (0, 0)) (a2 := (0, 0)) (mm' := mX1_has) (S := []) [jI x3] md_X1_has im_X1_has se_X1_has dX9_refuses_28 wm_X9_77 jcl_X1.1 rfl g_1 rfl rfl (Nat.le_of_ble_eq_true rfl) (Nat.le_of_ble_eq_true rfl) rfl (c_X1_has hi_1  (fun c2 => (J_if_eq dX9_refuses_31 (tgt := 100) (by decide) (fun c => absurd c (by decide)) (fun _ => (J_iload_n dX9_refuses_34 rfl (J_aload_n dX9_refuses_35 rfl (J_getR (k := 0) jcl_X9 dX9_refuses_36 wf_X9_12 g_0 (Nat.le_of_ble_eq_true rfl) rfl rfl (J_getRN (k := 1) jcl_X1 dX9_refuses_39 wf_X9_142 g_1 (Nat.le_of_ble_eq_true rfl) rfl rfl (J_iload_n dX9_refuses_42 rfl (J_iald dX9_refuses_43 g_3 (s1 c1 c2) (s2 c1 c2) (J_imul dX9_refuses_44 (s3 c1 c2) (J_istore dX9_refuses_45 (Nat.le_of_ble_eq_true rfl) (J_bipush dX9_refuses_47 jc_99 jb_99 (J_aload_n dX9_refuses_49 rfl (J_getR (k := 0) jcl_X9 dX9_refuses_50 wf_X9_12 g_0 (Nat.le_of_ble_eq_true rfl) rfl rfl (J_getRN (k := 0) jcl_X1 dX9_refuses_53 wf_X9_119 g_1 (Nat.le_of_ble_eq_true rfl) rfl rfl (J_iload_n dX9_refuses_56 rfl (J_iald dX9_refuses_57 g_2 (s1 c1 c2) (s2 c1 c2) (J_iload dX9_refuses_58 rfl (J_iadd dX9_refuses_60 (s4 c1 c2) (J_mmin dX9_refuses_61 wm_X9_167 is_J9_min_7cf53 wi_J9 mc_J9_min_7cf53 (Nat.succ_le_succ (Nat.zero_le _)) (Nat.le_of_ble_eq_true rfl) (J_istore dX9_refuses_64 (Nat.le_of_ble_eq_true rfl) (J_aload_n dX9_refuses_66 rfl (J_getR (k := 0) jcl_X9 dX9_refuses_67 wf_X9_12 g_0 (Nat.le_of_ble_eq_true rfl) rfl rfl (J_getRN (k := 2) jcl_X1 dX9_refuses_70 wf_X9_172 g_1 (Nat.le_of_ble_eq_true rfl) rfl rfl (J_iload_n dX9_refuses_73 rfl (J_iald dX9_refuses_74 g_4 (s1 c1 c2) (s2 c1 c2) (J_aload_n dX9_refuses_75 rfl (J_getR (k := 0) jcl_X9 dX9_refuses_76 wf_X9_12 g_0 (Nat.le_of_ble_eq_true rfl) rfl rfl (J_getRN (k := 0) jcl_X1 dX9_refuses_79 wf_X9_119 g_1 (Nat.le_of_ble_eq_true rfl) rfl rfl (J_iload_n dX9_refuses_82 rfl (J_iald dX9_refuses_83 g_2 (s1 c1 c2) (s2 c1 c2) (J_iload dX9_refuses_84 rfl (J_isub dX9_refuses_86 (s5 c1 c2) (J_mmax dX9_refuses_87 wm_X9_175 is_J9_max_7cf53 wi_J9 mc_J9_max_7cf53 (Nat.succ_le_succ (Nat.zero_le _)) (Nat.le_of_ble_eq_true rfl) (J_istore dX9_refuses_90 (Nat.le_of_ble_eq_true rfl) (J_iload_n dX9_refuses_92 rfl (J_iload dX9_refuses_93 rfl (J_iload dX9_refuses_95 rfl (J_isub dX9_refuses_97 (s6 c1 c2) (J_iadd dX9_refuses_98 (s7 c1 c2) (J_istore_n dX9_refuses_99 (Nat.le_of_ble_eq_true rfl) (J_weak [jR 0, jI x1, jI (x2 + ((min 99 ((M 2 x3) + (x1 * (M 3 x3)))) - (max (M 4 x3) ((M 2 x3) - (x1 * (M 3 x3)))))), jI x3, jN, jN, jN] ⟨Or.inr rfl, Or.inr rfl, Or.inr rfl, Or.inr rfl, Or.inl rfl, Or.inl rfl, Or.inl rfl, trivial⟩ (k2 c1 c2))))))))))))))))))))))))))))))))))))))))))) (fun c2 => (J_if_eq dX9_refuses_31 (tgt := 100) (by decide) (fun _ => (k3 c1 c2)) (fun c => absurd c (by decide)))))))))))))
theorem b_X9_refuses_100 {l : Launch} {z d : Nat} {X : jX} {M : Nat → Int → Int} {Q : Option jV → jM → Prop} {x1 : Int} {x2 : Int} {x3 : Int}  (s1 : jIn (x3 + 1)) (k1 : J l z X (d + 1) mX9_refuses (0, 0) 17 [jR 0, jI x1, jI x2, jI (x3 + 1), jN, jN, jN] [] (jG, M) Q) : J l z X (d + 1) mX9_refuses (0, 0) 100 [jR 0, jI x1, jI x2, jI x3, jN, jN, jN] [] (jG, M) Q :=
  (J_iinc dX9_refuses_100 rfl jc_1 s1 (J_goto dX9_refuses_103 (tgt := 17) (by decide) k1))
theorem b_X9_seen_0 {l : Launch} {z d : Nat} {X : jX} {M : Nat → Int → Int} {Q : Option jV → jM → Prop} {x1 : Int} {x2 : Int}   (k1 : hasB (M 1 4) x1 = true → 0 ≤ x2 ∧ x2 ≤ 99 → J l z X d mX6_add (0, 0) 0 [jR 68, jI x1, jI x2] [] (jG, M) (fun r μ => J l z X (d + 1) mX9_seen (0, 0) 35 [jR 0, jI x1, jI x2] (r.toList ++ []) μ Q)) (k2 : hasB (M 1 4) x1 = true → ¬ (0 ≤ x2 ∧ x2 ≤ 99) → Q (some (jI (-2))) (jG, M)) (k3 : hasB (M 1 4) x1 = false → Q (some (jI (-1))) (jG, M)) : J l z X (d + 1) mX9_seen (0, 0) 0 [jR 0, jI x1, jI x2] [] (jG, M) Q :=
  (J_aload_n dX9_seen_0 rfl (J_getR (k := 0) jcl_X9 dX9_seen_1 wf_X9_12 g_0 (Nat.le_of_ble_eq_true rfl) rfl rfl (J_iload_n dX9_seen_4 rfl (J_callV (a1 := (0, 0)) (a2 := (0, 0)) (mm' := mX1_has) (S := []) [jI x1] md_X1_has im_X1_has se_X1_has dX9_seen_5 wm_X9_77 jcl_X1.1 rfl g_1 rfl rfl (Nat.le_of_ble_eq_true rfl) (Nat.le_of_ble_eq_true rfl) rfl (c_X1_has hi_1  (fun c1 => (J_if_ne dX9_seen_8 (tgt := 13) (by decide) (fun _ => (J_iload_n dX9_seen_13 rfl (J_iconst dX9_seen_14 jc_0 (J_bipush dX9_seen_15 jc_99 jb_99 (J_callS (a1 := (0, 0)) (a2 := (0, 0)) (mm' := mX9_within) (S := []) [jI x2, jI 0, jI 99] md_X9_within is_X9_within dX9_seen_17 wm_X9_65 rfl rfl (Nat.le_of_ble_eq_true rfl) (Nat.le_of_ble_eq_true rfl) rfl (c_X9_within   (fun c2 => (J_if_ne dX9_seen_20 (tgt := 26) (by decide) (fun _ => (J_aload_n dX9_seen_26 rfl (J_getR (k := 5) jcl_X9 dX9_seen_27 wf_X9_47 g_0 (Nat.le_of_ble_eq_true rfl) rfl rfl (J_iload_n dX9_seen_30 rfl (J_iload_n dX9_seen_31 rfl (J_callV (a1 := (0, 0)) (a2 := (0, 0)) (mm' := mX6_add) (S := []) [jI x1, jI x2] md_X6_add im_X6_add se_X6_add dX9_seen_32 wm_X9_178 jcl_X6.1 rfl g_68 rfl rfl (Nat.le_of_ble_eq_true rfl) (Nat.le_of_ble_eq_true rfl) rfl (k1 c1 c2))))))) (fun c => absurd c (by decide)))) (fun c2 => (J_if_ne dX9_seen_20 (tgt := 26) (by decide) (fun c => absurd c (by decide)) (fun _ => (J_bipush dX9_seen_23 jc_m2 jb_m2 (J_iret dX9_seen_25 rfl (k2 c1 c2)))))))))))) (fun c => absurd c (by decide)))) (fun c1 => (J_if_ne dX9_seen_8 (tgt := 13) (by decide) (fun c => absurd c (by decide)) (fun _ => (J_iconst dX9_seen_11 jc_m1 (J_iret dX9_seen_12 rfl (k3 c1)))))))))))
theorem b_X9_seen_35 {l : Launch} {z d : Nat} {X : jX} {M : Nat → Int → Int} {Q : Option jV → jM → Prop} {x1 : Int} {x2 : Int} {t0 : Int}   (k1 : t0 = 0 → Q (some (jI (-4))) (jG, M)) (k2 : t0 ≠ 0 → Q (some (jI (M 68 2))) (jG, M)) : J l z X (d + 1) mX9_seen (0, 0) 35 [jR 0, jI x1, jI x2] [jI t0] (jG, M) Q :=
  (J_if_eq dX9_seen_35 (tgt := 48) (by decide) (fun c1 => (J_bipush dX9_seen_48 jc_m4 jb_m4 (J_iret dX9_seen_50 rfl (k1 c1)))) (fun c1 => (J_aload_n dX9_seen_38 rfl (J_getR (k := 5) jcl_X9 dX9_seen_39 wf_X9_47 g_0 (Nat.le_of_ble_eq_true rfl) rfl rfl (J_getIN (k := 2) (kz := 2) jcl_X6 dX9_seen_42 wf_X9_181 g_68 (Nat.le_of_ble_eq_true rfl) rfl rfl (J_goto dX9_seen_45 (tgt := 50) (by decide) (J_iret dX9_seen_50 rfl (k2 c1))))))))
theorem b_X9_forget_0 {l : Launch} {z d : Nat} {X : jX} {M : Nat → Int → Int} {Q : Option jV → jM → Prop}    (k1 : Q (some (jI (M 68 2))) (jG, (jupd M 68 2 0))) : J l z X d mX9_forget (0, 0) 0 [jR 0, jN] [] (jG, M) Q :=
  (J_aload_n dX9_forget_0 rfl (J_getR (k := 5) jcl_X9 dX9_forget_1 wf_X9_47 g_0 (Nat.le_of_ble_eq_true rfl) rfl rfl (J_getIN (k := 2) (kz := 2) jcl_X6 dX9_forget_4 wf_X9_181 g_68 (Nat.le_of_ble_eq_true rfl) rfl rfl (J_istore_n dX9_forget_7 (Nat.le_of_ble_eq_true rfl) (J_aload_n dX9_forget_8 rfl (J_getR (k := 5) jcl_X9 dX9_forget_9 wf_X9_47 g_0 (Nat.le_of_ble_eq_true rfl) rfl rfl (J_iconst dX9_forget_12 jc_0 (J_putIN (k := 2) (kz := 2) jcl_X6 dX9_forget_13 wf_X9_181 g_68 (Nat.le_of_ble_eq_true rfl) rfl rfl rfl (J_iload_n dX9_forget_16 rfl (J_iret dX9_forget_17 rfl k1))))))))))
theorem b_X9_gave_0 {l : Launch} {z d : Nat} {X : jX} {M : Nat → Int → Int} {Q : Option jV → jM → Prop} {x1 : Int}   (k1 : 0 ≤ x1 ∧ x1 ≤ 1 → J l z X (d + 4) mX6_givers (0, 0) 0 [jR 68, jR 1, jN, jN] [] (jG, M) (fun r μ => J l z X (d + 5) mX9_gave (0, 0) 23 [jR 0, jI x1, jN] (r.toList ++ []) μ Q)) (k2 : ¬ (0 ≤ x1 ∧ x1 ≤ 1) → Q (some (jI (-2))) (jG, M)) : J l z X (d + 5) mX9_gave (0, 0) 0 [jR 0, jI x1, jN] [] (jG, M) Q :=
  (J_iload_n dX9_gave_0 rfl (J_iconst dX9_gave_1 jc_0 (J_iconst dX9_gave_2 jc_1 (J_callS (a1 := (0, 0)) (a2 := (0, 0)) (mm' := mX9_within) (S := []) [jI x1, jI 0, jI 1] md_X9_within is_X9_within dX9_gave_3 wm_X9_65 rfl rfl (Nat.le_of_ble_eq_true rfl) (Nat.le_of_ble_eq_true rfl) rfl (c_X9_within   (fun c1 => (J_if_ne dX9_gave_6 (tgt := 12) (by decide) (fun _ => (J_aload_n dX9_gave_12 rfl (J_getR (k := 5) jcl_X9 dX9_gave_13 wf_X9_47 g_0 (Nat.le_of_ble_eq_true rfl) rfl rfl (J_aload_n dX9_gave_16 rfl (J_getR (k := 0) jcl_X9 dX9_gave_17 wf_X9_12 g_0 (Nat.le_of_ble_eq_true rfl) rfl rfl (J_callV (a1 := (0, 0)) (a2 := (0, 0)) (mm' := mX6_givers) (S := []) [jR 1] md_X6_givers im_X6_givers se_X6_givers dX9_gave_20 wm_X9_182 jcl_X6.1 rfl g_68 rfl rfl (Nat.le_of_ble_eq_true rfl) (Nat.le_of_ble_eq_true rfl) rfl (k1 c1))))))) (fun c => absurd c (by decide)))) (fun c1 => (J_if_ne dX9_gave_6 (tgt := 12) (by decide) (fun c => absurd c (by decide)) (fun _ => (J_bipush dX9_gave_9 jc_m2 jb_m2 (J_iret dX9_gave_11 rfl (k2 c1)))))))))))
theorem b_X9_gave_23 {l : Launch} {z d : Nat} {X : jX} {M : Nat → Int → Int} {Q : Option jV → jM → Prop} {x1 : Int} {t0 : Int}  (s1 : x1 = 0 → 0 ≤ t0 ∧ t0 < 128) (k1 : x1 ≠ 0 → Q (some (jI (jand t0 63))) (jG, M)) (k2 : x1 = 0 → Q (some (jI (popc t0))) (jG, M)) : J l z X (d + 5) mX9_gave (0, 0) 23 [jR 0, jI x1, jN] [jI t0] (jG, M) Q :=
  (J_istore_n dX9_gave_23 (Nat.le_of_ble_eq_true rfl) (J_iload_n dX9_gave_24 rfl (J_if_ne dX9_gave_25 (tgt := 35) (by decide) (fun c1 => (J_iload_n dX9_gave_35 rfl (J_bipush dX9_gave_36 jc_63 jb_63 (J_iand dX9_gave_38 (J_iret dX9_gave_39 rfl (k1 c1)))))) (fun c1 => (J_iload_n dX9_gave_28 rfl (J_callS (a1 := (0, 0)) (a2 := (0, 0)) (mm' := mJ6_bitCount_0f7a4) (S := []) [jI t0] md_J6_bitCount_0f7a4 is_J6_bitCount_0f7a4 dX9_gave_29 wm_X9_186 rfl rfl (Nat.le_of_ble_eq_true rfl) (Nat.le_of_ble_eq_true rfl) rfl (c_J6_bitCount_0f7a4  (s1 c1) (J_goto dX9_gave_32 (tgt := 39) (by decide) (J_iret dX9_gave_39 rfl (k2 c1))))))))))
theorem b_X9_ask_0 {l : Launch} {z d : Nat} {X : jX} {M : Nat → Int → Int} {Q : Option jV → jM → Prop} {x1 : Int}   (k1 : 0 ≤ x1 ∧ x1 ≤ 1 → J l z X (d + 4) mX6_givers (0, 0) 0 [jR 68, jR 1, jN, jN] [] (jG, M) (fun r μ => J l z X (d + 5) mX9_ask (0, 0) 23 [jR 0, jI x1, jN, jN, jN, jN, jN] (r.toList ++ []) μ Q)) (k2 : ¬ (0 ≤ x1 ∧ x1 ≤ 1) → Q (some (jI (-2))) (jG, M)) : J l z X (d + 5) mX9_ask (0, 0) 0 [jR 0, jI x1, jN, jN, jN, jN, jN] [] (jG, M) Q :=
  (J_iload_n dX9_ask_0 rfl (J_iconst dX9_ask_1 jc_0 (J_iconst dX9_ask_2 jc_1 (J_callS (a1 := (0, 0)) (a2 := (0, 0)) (mm' := mX9_within) (S := []) [jI x1, jI 0, jI 1] md_X9_within is_X9_within dX9_ask_3 wm_X9_65 rfl rfl (Nat.le_of_ble_eq_true rfl) (Nat.le_of_ble_eq_true rfl) rfl (c_X9_within   (fun c1 => (J_if_ne dX9_ask_6 (tgt := 12) (by decide) (fun _ => (J_aload_n dX9_ask_12 rfl (J_getR (k := 5) jcl_X9 dX9_ask_13 wf_X9_47 g_0 (Nat.le_of_ble_eq_true rfl) rfl rfl (J_aload_n dX9_ask_16 rfl (J_getR (k := 0) jcl_X9 dX9_ask_17 wf_X9_12 g_0 (Nat.le_of_ble_eq_true rfl) rfl rfl (J_callV (a1 := (0, 0)) (a2 := (0, 0)) (mm' := mX6_givers) (S := []) [jR 1] md_X6_givers im_X6_givers se_X6_givers dX9_ask_20 wm_X9_182 jcl_X6.1 rfl g_68 rfl rfl (Nat.le_of_ble_eq_true rfl) (Nat.le_of_ble_eq_true rfl) rfl (k1 c1))))))) (fun c => absurd c (by decide)))) (fun c1 => (J_if_ne dX9_ask_6 (tgt := 12) (by decide) (fun c => absurd c (by decide)) (fun _ => (J_bipush dX9_ask_9 jc_m2 jb_m2 (J_iret dX9_ask_11 rfl (k2 c1)))))))))))
theorem b_X9_ask_23 {l : Launch} {z d : Nat} {X : jX} {M : Nat → Int → Int} {Q : Option jV → jM → Prop} {x1 : Int} {t0 : Int}   (k1 : J l z X (d + 5) mX9_ask (0, 0) 34 [jR 0, jI x1, jI t0, jI (-6), jI (-6), jI 0, jN] [] (jG, M) Q) : J l z X (d + 5) mX9_ask (0, 0) 23 [jR 0, jI x1, jN, jN, jN, jN, jN] [jI t0] (jG, M) Q :=
  (J_istore_n dX9_ask_23 (Nat.le_of_ble_eq_true rfl) (J_bipush dX9_ask_24 jc_m6 jb_m6 (J_istore_n dX9_ask_26 (Nat.le_of_ble_eq_true rfl) (J_bipush dX9_ask_27 jc_m6 jb_m6 (J_istore dX9_ask_29 (Nat.le_of_ble_eq_true rfl) (J_iconst dX9_ask_31 jc_0 (J_istore dX9_ask_32 (Nat.le_of_ble_eq_true rfl) k1)))))))
theorem b_X9_ask_34 {l : Launch} {z d : Nat} {X : jX} {M : Nat → Int → Int} {Q : Option jV → jM → Prop} {x1 : Int} {x2 : Int} {x3 : Int} {x4 : Int} {x5 : Int}   (k1 : 6 ≤ x5 → J l z X (d + 5) mX9_ask (0, 0) 95 [jR 0, jI x1, jI x2, jI x3, jI x4, jI x5, jN] [] (jG, M) Q) (k2 : x5 < 6 → x2 = 0 → J l z X (d + 5) mX9_ask (0, 0) 95 [jR 0, jI x1, jI x2, jI x3, jI x4, jI x5, jN] [] (jG, M) Q) (k3 : x5 < 6 → x2 ≠ 0 → hasB (M 1 4) x5 = true → J l z X (d + 4) mX6_leftAtMost (0, 0) 0 [jR 1, jI x2, jI x5, jN, jN] [] (jG, M) (fun r μ => J l z X (d + 5) mX9_ask (0, 0) 67 [jR 0, jI x1, jI x2, jI x3, jI x4, jI x5, jN] (r.toList ++ []) μ Q)) (k4 : x5 < 6 → x2 ≠ 0 → hasB (M 1 4) x5 = false → J l z X (d + 5) mX9_ask (0, 0) 89 [jR 0, jI x1, jI x2, jI x3, jI x4, jI x5, jN] [] (jG, M) Q) : J l z X (d + 5) mX9_ask (0, 0) 34 [jR 0, jI x1, jI x2, jI x3, jI x4, jI x5, jN] [] (jG, M) Q :=
  (J_iload dX9_ask_34 rfl (J_bipush dX9_ask_36 jc_6 jb_6 (J_icmp_ge dX9_ask_38 (tgt := 95) (by decide) (fun c1 => (k1 c1)) (fun c1 => (J_iload_n dX9_ask_41 rfl (J_if_eq dX9_ask_42 (tgt := 95) (by decide) (fun c2 => (k2 c1 c2)) (fun c2 => (J_aload_n dX9_ask_45 rfl (J_getR (k := 0) jcl_X9 dX9_ask_46 wf_X9_12 g_0 (Nat.le_of_ble_eq_true rfl) rfl rfl (J_iload dX9_ask_49 rfl (J_callV (a1 := (0, 0)) (a2 := (0, 0)) (mm' := mX1_has) (S := []) [jI x5] md_X1_has im_X1_has se_X1_has dX9_ask_51 wm_X9_77 jcl_X1.1 rfl g_1 rfl rfl (Nat.le_of_ble_eq_true rfl) (Nat.le_of_ble_eq_true rfl) rfl (c_X1_has hi_1  (fun c3 => (J_if_eq dX9_ask_54 (tgt := 89) (by decide) (fun c => absurd c (by decide)) (fun _ => (J_aload_n dX9_ask_57 rfl (J_getR (k := 0) jcl_X9 dX9_ask_58 wf_X9_12 g_0 (Nat.le_of_ble_eq_true rfl) rfl rfl (J_iload_n dX9_ask_61 rfl (J_iload dX9_ask_62 rfl (J_callS (a1 := (0, 0)) (a2 := (0, 0)) (mm' := mX6_leftAtMost) (S := []) [jR 1, jI x2, jI x5] md_X6_leftAtMost is_X6_leftAtMost dX9_ask_64 wm_X9_192 rfl rfl (Nat.le_of_ble_eq_true rfl) (Nat.le_of_ble_eq_true rfl) rfl (k3 c1 c2 c3))))))))) (fun c3 => (J_if_eq dX9_ask_54 (tgt := 89) (by decide) (fun _ => (k4 c1 c2 c3)) (fun c => absurd c (by decide))))))))))))))))
theorem b_X9_ask_67 {l : Launch} {z d : Nat} {X : jX} {M : Nat → Int → Int} {Q : Option jV → jM → Prop} {x1 : Int} {x2 : Int} {x3 : Int} {x4 : Int} {x5 : Int} {t0 : Int}   (k1 : x3 = (-6) → J l z X (d + 5) mX9_ask (0, 0) 82 [jR 0, jI x1, jI x2, jI x3, jI x4, jI x5, jI t0] [] (jG, M) Q) (k2 : x3 ≠ (-6) → x4 ≤ t0 → J l z X (d + 5) mX9_ask (0, 0) 89 [jR 0, jI x1, jI x2, jI x3, jI x4, jI x5, jN] [] (jG, M) Q) (k3 : x3 ≠ (-6) → t0 < x4 → J l z X (d + 5) mX9_ask (0, 0) 82 [jR 0, jI x1, jI x2, jI x3, jI x4, jI x5, jI t0] [] (jG, M) Q) : J l z X (d + 5) mX9_ask (0, 0) 67 [jR 0, jI x1, jI x2, jI x3, jI x4, jI x5, jN] [jI t0] (jG, M) Q :=
  (J_istore dX9_ask_67 (Nat.le_of_ble_eq_true rfl) (J_iload_n dX9_ask_69 rfl (J_bipush dX9_ask_70 jc_m6 jb_m6 (J_icmp_eq dX9_ask_72 (tgt := 82) (by decide) (fun c1 => (k1 c1)) (fun c1 => (J_iload dX9_ask_75 rfl (J_iload dX9_ask_77 rfl (J_icmp_ge dX9_ask_79 (tgt := 89) (by decide) (fun c2 => (J_weak [jR 0, jI x1, jI x2, jI x3, jI x4, jI x5, jN] ⟨Or.inr rfl, Or.inr rfl, Or.inr rfl, Or.inr rfl, Or.inr rfl, Or.inr rfl, Or.inl rfl, trivial⟩ (k2 c1 c2))) (fun c2 => (k3 c1 c2))))))))))
theorem b_X9_ask_82 {l : Launch} {z d : Nat} {X : jX} {M : Nat → Int → Int} {Q : Option jV → jM → Prop} {x1 : Int} {x2 : Int} {x3 : Int} {x4 : Int} {x5 : Int} {x6 : Int}   (k1 : J l z X (d + 5) mX9_ask (0, 0) 89 [jR 0, jI x1, jI x2, jI x5, jI x6, jI x5, jN] [] (jG, M) Q) : J l z X (d + 5) mX9_ask (0, 0) 82 [jR 0, jI x1, jI x2, jI x3, jI x4, jI x5, jI x6] [] (jG, M) Q :=
  (J_iload dX9_ask_82 rfl (J_istore_n dX9_ask_84 (Nat.le_of_ble_eq_true rfl) (J_iload dX9_ask_85 rfl (J_istore dX9_ask_87 (Nat.le_of_ble_eq_true rfl) (J_weak [jR 0, jI x1, jI x2, jI x5, jI x6, jI x5, jN] ⟨Or.inr rfl, Or.inr rfl, Or.inr rfl, Or.inr rfl, Or.inr rfl, Or.inr rfl, Or.inl rfl, trivial⟩ k1)))))
theorem b_X9_ask_89 {l : Launch} {z d : Nat} {X : jX} {M : Nat → Int → Int} {Q : Option jV → jM → Prop} {x1 : Int} {x2 : Int} {x3 : Int} {x4 : Int} {x5 : Int}  (s1 : jIn (x5 + 1)) (k1 : J l z X (d + 5) mX9_ask (0, 0) 34 [jR 0, jI x1, jI x2, jI x3, jI x4, jI (x5 + 1), jN] [] (jG, M) Q) : J l z X (d + 5) mX9_ask (0, 0) 89 [jR 0, jI x1, jI x2, jI x3, jI x4, jI x5, jN] [] (jG, M) Q :=
  (J_iinc dX9_ask_89 rfl jc_1 s1 (J_goto dX9_ask_92 (tgt := 34) (by decide) k1))
theorem b_X9_ask_95 {l : Launch} {z d : Nat} {X : jX} {M : Nat → Int → Int} {Q : Option jV → jM → Prop} {x1 : Int} {x2 : Int} {x3 : Int} {x4 : Int} {x5 : Int}   (k1 : x1 ≠ 0 → Q (some (jI x4)) (jG, M)) (k2 : x1 = 0 → Q (some (jI x3)) (jG, M)) : J l z X (d + 5) mX9_ask (0, 0) 95 [jR 0, jI x1, jI x2, jI x3, jI x4, jI x5, jN] [] (jG, M) Q :=
  (J_iload_n dX9_ask_95 rfl (J_if_ne dX9_ask_96 (tgt := 103) (by decide) (fun c1 => (J_iload dX9_ask_103 rfl (J_iret dX9_ask_105 rfl (k1 c1)))) (fun c1 => (J_iload_n dX9_ask_99 rfl (J_goto dX9_ask_100 (tgt := 105) (by decide) (J_iret dX9_ask_105 rfl (k2 c1)))))))
theorem b_X9_thieves_0 {l : Launch} {z d : Nat} {X : jX} {M : Nat → Int → Int} {Q : Option jV → jM → Prop} {x1 : Int} {x2 : Int} {x3 : Int}  (s1 : 1 ≤ x1 ∧ x1 ≤ 99 → 1 ≤ x2 ∧ x2 ≤ 9 → 0 ≤ x3 ∧ x3 ≤ 1 → jIn (x1 - 1)) (s2 : 1 ≤ x1 ∧ x1 ≤ 99 → 1 ≤ x2 ∧ x2 ≤ 9 → 0 ≤ x3 ∧ x3 ≤ 1 → jIn (x2 + 1)) (s3 : 1 ≤ x1 ∧ x1 ≤ 99 → 1 ≤ x2 ∧ x2 ≤ 9 → 0 ≤ x3 ∧ x3 ≤ 1 → 0 ≤ (x1 - 1)) (s4 : 1 ≤ x1 ∧ x1 ≤ 99 → 1 ≤ x2 ∧ x2 ≤ 9 → 0 ≤ x3 ∧ x3 ≤ 1 → 0 < (x2 + 1)) (k1 : 1 ≤ x1 ∧ x1 ≤ 99 → 1 ≤ x2 ∧ x2 ≤ 9 → 0 ≤ x3 ∧ x3 ≤ 1 → x3 ≠ 0 → ((x1 - 1) % (x2 + 1)) ≠ 0 → Q (some (jI ((x1 - 1) % (x2 + 1)))) (jG, M)) (k2 : 1 ≤ x1 ∧ x1 ≤ 99 → 1 ≤ x2 ∧ x2 ≤ 9 → 0 ≤ x3 ∧ x3 ≤ 1 → x3 ≠ 0 → ((x1 - 1) % (x2 + 1)) = 0 → Q (some (jI (-6))) (jG, M)) (k3 : 1 ≤ x1 ∧ x1 ≤ 99 → 1 ≤ x2 ∧ x2 ≤ 9 → 0 ≤ x3 ∧ x3 ≤ 1 → x3 = 0 → ((x1 - 1) % (x2 + 1)) ≠ 0 → Q (some (jI 1)) (jG, M)) (k4 : 1 ≤ x1 ∧ x1 ≤ 99 → 1 ≤ x2 ∧ x2 ≤ 9 → 0 ≤ x3 ∧ x3 ≤ 1 → x3 = 0 → ((x1 - 1) % (x2 + 1)) = 0 → Q (some (jI 0)) (jG, M)) (k5 : 1 ≤ x1 ∧ x1 ≤ 99 → 1 ≤ x2 ∧ x2 ≤ 9 → ¬ (0 ≤ x3 ∧ x3 ≤ 1) → Q (some (jI (-2))) (jG, M)) (k6 : 1 ≤ x1 ∧ x1 ≤ 99 → ¬ (1 ≤ x2 ∧ x2 ≤ 9) → Q (some (jI (-2))) (jG, M)) (k7 : ¬ (1 ≤ x1 ∧ x1 ≤ 99) → Q (some (jI (-2))) (jG, M)) : J l z X (d + 1) mX9_thieves (0, 0) 0 [jR 0, jI x1, jI x2, jI x3, jN] [] (jG, M) Q :=
  (J_iload_n dX9_thieves_0 rfl (J_iconst dX9_thieves_1 jc_1 (J_bipush dX9_thieves_2 jc_99 jb_99 (J_callS (a1 := (0, 0)) (a2 := (0, 0)) (mm' := mX9_within) (S := []) [jI x1, jI 1, jI 99] md_X9_within is_X9_within dX9_thieves_4 wm_X9_65 rfl rfl (Nat.le_of_ble_eq_true rfl) (Nat.le_of_ble_eq_true rfl) rfl (c_X9_within   (fun c1 => (J_if_eq dX9_thieves_7 (tgt := 29) (by decide) (fun c => absurd c (by decide)) (fun _ => (J_iload_n dX9_thieves_10 rfl (J_iconst dX9_thieves_11 jc_1 (J_bipush dX9_thieves_12 jc_9 jb_9 (J_callS (a1 := (0, 0)) (a2 := (0, 0)) (mm' := mX9_within) (S := []) [jI x2, jI 1, jI 9] md_X9_within is_X9_within dX9_thieves_14 wm_X9_65 rfl rfl (Nat.le_of_ble_eq_true rfl) (Nat.le_of_ble_eq_true rfl) rfl (c_X9_within   (fun c2 => (J_if_eq dX9_thieves_17 (tgt := 29) (by decide) (fun c => absurd c (by decide)) (fun _ => (J_iload_n dX9_thieves_20 rfl (J_iconst dX9_thieves_21 jc_0 (J_iconst dX9_thieves_22 jc_1 (J_callS (a1 := (0, 0)) (a2 := (0, 0)) (mm' := mX9_within) (S := []) [jI x3, jI 0, jI 1] md_X9_within is_X9_within dX9_thieves_23 wm_X9_65 rfl rfl (Nat.le_of_ble_eq_true rfl) (Nat.le_of_ble_eq_true rfl) rfl (c_X9_within   (fun c3 => (J_if_ne dX9_thieves_26 (tgt := 32) (by decide) (fun _ => (J_iload_n dX9_thieves_32 rfl (J_iconst dX9_thieves_33 jc_1 (J_isub dX9_thieves_34 (s1 c1 c2 c3) (J_iload_n dX9_thieves_35 rfl (J_iconst dX9_thieves_36 jc_1 (J_iadd dX9_thieves_37 (s2 c1 c2 c3) (J_irem dX9_thieves_38 (s3 c1 c2 c3) (s4 c1 c2 c3) (J_istore dX9_thieves_39 (Nat.le_of_ble_eq_true rfl) (J_iload_n dX9_thieves_41 rfl (J_if_ne dX9_thieves_42 (tgt := 56) (by decide) (fun c4 => (J_iload dX9_thieves_56 rfl (J_if_ne dX9_thieves_58 (tgt := 66) (by decide) (fun c5 => (J_iload dX9_thieves_66 rfl (J_iret dX9_thieves_68 rfl (k1 c1 c2 c3 c4 c5)))) (fun c5 => (J_bipush dX9_thieves_61 jc_m6 jb_m6 (J_goto dX9_thieves_63 (tgt := 68) (by decide) (J_iret dX9_thieves_68 rfl (k2 c1 c2 c3 c4 c5)))))))) (fun c4 => (J_iload dX9_thieves_45 rfl (J_if_ne dX9_thieves_47 (tgt := 54) (by decide) (fun c6 => (J_iconst dX9_thieves_54 jc_1 (J_iret dX9_thieves_55 rfl (k3 c1 c2 c3 c4 c6)))) (fun c6 => (J_iconst dX9_thieves_50 jc_0 (J_goto dX9_thieves_51 (tgt := 55) (by decide) (J_iret dX9_thieves_55 rfl (k4 c1 c2 c3 c4 c6))))))))))))))))))) (fun c => absurd c (by decide)))) (fun c3 => (J_if_ne dX9_thieves_26 (tgt := 32) (by decide) (fun c => absurd c (by decide)) (fun _ => (J_bipush dX9_thieves_29 jc_m2 jb_m2 (J_iret dX9_thieves_31 rfl (k5 c1 c2 c3)))))))))))))) (fun c2 => (J_if_eq dX9_thieves_17 (tgt := 29) (by decide) (fun _ => (J_bipush dX9_thieves_29 jc_m2 jb_m2 (J_iret dX9_thieves_31 rfl (k6 c1 c2)))) (fun c => absurd c (by decide)))))))))))) (fun c1 => (J_if_eq dX9_thieves_7 (tgt := 29) (by decide) (fun _ => (J_bipush dX9_thieves_29 jc_m2 jb_m2 (J_iret dX9_thieves_31 rfl (k7 c1)))) (fun c => absurd c (by decide)))))))))
theorem b_X9_worms_0 {l : Launch} {z d : Nat} {X : jX} {M : Nat → Int → Int} {Q : Option jV → jM → Prop} {x1 : Int} {x2 : Int} {x3 : Int} {x4 : Int} {x5 : Int}   (k1 : hasB (M 1 4) x1 = true → 0 ≤ x2 ∧ x2 ≤ 6 → 0 ≤ x3 ∧ x3 ≤ 10 → (-1) ≤ x4 ∧ x4 ≤ 99 → 0 ≤ x5 ∧ x5 ≤ 1 → J l z X (d + 3) mX7_weigh (0, 0) 0 [jR 1, jI x1, jI x2, jI x3, jI x4, jN, jN, jN, jN, jN, jN, jN] [] (jG, M) (fun r μ => J l z X (d + 4) mX9_worms (0, 0) 72 [jR 0, jI x1, jI x2, jI x3, jI x4, jI x5, jN, jN, jN, jN] (r.toList ++ []) μ Q)) (k2 : hasB (M 1 4) x1 = true → 0 ≤ x2 ∧ x2 ≤ 6 → 0 ≤ x3 ∧ x3 ≤ 10 → (-1) ≤ x4 ∧ x4 ≤ 99 → ¬ (0 ≤ x5 ∧ x5 ≤ 1) → Q (some (jL (-1000000000000000002))) (jG, M)) (k3 : hasB (M 1 4) x1 = true → 0 ≤ x2 ∧ x2 ≤ 6 → 0 ≤ x3 ∧ x3 ≤ 10 → ¬ ((-1) ≤ x4 ∧ x4 ≤ 99) → Q (some (jL (-1000000000000000002))) (jG, M)) (k4 : hasB (M 1 4) x1 = true → 0 ≤ x2 ∧ x2 ≤ 6 → ¬ (0 ≤ x3 ∧ x3 ≤ 10) → Q (some (jL (-1000000000000000002))) (jG, M)) (k5 : hasB (M 1 4) x1 = true → ¬ (0 ≤ x2 ∧ x2 ≤ 6) → Q (some (jL (-1000000000000000002))) (jG, M)) (k6 : hasB (M 1 4) x1 = false → Q (some (jL (-1000000000000000001))) (jG, M)) : J l z X (d + 4) mX9_worms (0, 0) 0 [jR 0, jI x1, jI x2, jI x3, jI x4, jI x5, jN, jN, jN, jN] [] (jG, M) Q :=
  (J_aload_n dX9_worms_0 rfl (J_getR (k := 0) jcl_X9 dX9_worms_1 wf_X9_12 g_0 (Nat.le_of_ble_eq_true rfl) rfl rfl (J_iload_n dX9_worms_4 rfl (J_callV (a1 := (0, 0)) (a2 := (0, 0)) (mm' := mX1_has) (S := []) [jI x1] md_X1_has im_X1_has se_X1_has dX9_worms_5 wm_X9_77 jcl_X1.1 rfl g_1 rfl rfl (Nat.le_of_ble_eq_true rfl) (Nat.le_of_ble_eq_true rfl) rfl (c_X1_has hi_1  (fun c1 => (J_if_ne dX9_worms_8 (tgt := 15) (by decide) (fun _ => (J_iload_n dX9_worms_15 rfl (J_iconst dX9_worms_16 jc_0 (J_bipush dX9_worms_17 jc_6 jb_6 (J_callS (a1 := (0, 0)) (a2 := (0, 0)) (mm' := mX9_within) (S := []) [jI x2, jI 0, jI 6] md_X9_within is_X9_within dX9_worms_19 wm_X9_65 rfl rfl (Nat.le_of_ble_eq_true rfl) (Nat.le_of_ble_eq_true rfl) rfl (c_X9_within   (fun c2 => (J_if_eq dX9_worms_22 (tgt := 56) (by decide) (fun c => absurd c (by decide)) (fun _ => (J_iload_n dX9_worms_25 rfl (J_iconst dX9_worms_26 jc_0 (J_bipush dX9_worms_27 jc_10 jb_10 (J_callS (a1 := (0, 0)) (a2 := (0, 0)) (mm' := mX9_within) (S := []) [jI x3, jI 0, jI 10] md_X9_within is_X9_within dX9_worms_29 wm_X9_65 rfl rfl (Nat.le_of_ble_eq_true rfl) (Nat.le_of_ble_eq_true rfl) rfl (c_X9_within   (fun c3 => (J_if_eq dX9_worms_32 (tgt := 56) (by decide) (fun c => absurd c (by decide)) (fun _ => (J_iload dX9_worms_35 rfl (J_iconst dX9_worms_37 jc_m1 (J_bipush dX9_worms_38 jc_99 jb_99 (J_callS (a1 := (0, 0)) (a2 := (0, 0)) (mm' := mX9_within) (S := []) [jI x4, jI (-1), jI 99] md_X9_within is_X9_within dX9_worms_40 wm_X9_65 rfl rfl (Nat.le_of_ble_eq_true rfl) (Nat.le_of_ble_eq_true rfl) rfl (c_X9_within   (fun c4 => (J_if_eq dX9_worms_43 (tgt := 56) (by decide) (fun c => absurd c (by decide)) (fun _ => (J_iload dX9_worms_46 rfl (J_iconst dX9_worms_48 jc_0 (J_iconst dX9_worms_49 jc_1 (J_callS (a1 := (0, 0)) (a2 := (0, 0)) (mm' := mX9_within) (S := []) [jI x5, jI 0, jI 1] md_X9_within is_X9_within dX9_worms_50 wm_X9_65 rfl rfl (Nat.le_of_ble_eq_true rfl) (Nat.le_of_ble_eq_true rfl) rfl (c_X9_within   (fun c5 => (J_if_ne dX9_worms_53 (tgt := 60) (by decide) (fun _ => (J_aload_n dX9_worms_60 rfl (J_getR (k := 0) jcl_X9 dX9_worms_61 wf_X9_12 g_0 (Nat.le_of_ble_eq_true rfl) rfl rfl (J_iload_n dX9_worms_64 rfl (J_iload_n dX9_worms_65 rfl (J_iload_n dX9_worms_66 rfl (J_iload dX9_worms_67 rfl (J_callS (a1 := (0, 0)) (a2 := (0, 0)) (mm' := mX7_weigh) (S := []) [jR 1, jI x1, jI x2, jI x3, jI x4] md_X7_weigh is_X7_weigh dX9_worms_69 wm_X9_200 rfl rfl (Nat.le_of_ble_eq_true rfl) (Nat.le_of_ble_eq_true rfl) rfl (k1 c1 c2 c3 c4 c5))))))))) (fun c => absurd c (by decide)))) (fun c5 => (J_if_ne dX9_worms_53 (tgt := 60) (by decide) (fun c => absurd c (by decide)) (fun _ => (J_ldc2 dX9_worms_56 (lw_X9_198) lcl_X9_198 rfl (J_lret dX9_worms_59 rfl (k2 c1 c2 c3 c4 c5)))))))))))))) (fun c4 => (J_if_eq dX9_worms_43 (tgt := 56) (by decide) (fun _ => (J_ldc2 dX9_worms_56 (lw_X9_198) lcl_X9_198 rfl (J_lret dX9_worms_59 rfl (k3 c1 c2 c3 c4)))) (fun c => absurd c (by decide)))))))))))) (fun c3 => (J_if_eq dX9_worms_32 (tgt := 56) (by decide) (fun _ => (J_ldc2 dX9_worms_56 (lw_X9_198) lcl_X9_198 rfl (J_lret dX9_worms_59 rfl (k4 c1 c2 c3)))) (fun c => absurd c (by decide)))))))))))) (fun c2 => (J_if_eq dX9_worms_22 (tgt := 56) (by decide) (fun _ => (J_ldc2 dX9_worms_56 (lw_X9_198) lcl_X9_198 rfl (J_lret dX9_worms_59 rfl (k5 c1 c2)))) (fun c => absurd c (by decide)))))))))) (fun c => absurd c (by decide)))) (fun c1 => (J_if_ne dX9_worms_8 (tgt := 15) (by decide) (fun c => absurd c (by decide)) (fun _ => (J_ldc2 dX9_worms_11 (lw_X9_196) lcl_X9_196 rfl (J_lret dX9_worms_14 rfl (k6 c1)))))))))))
theorem b_X9_worms_72 {l : Launch} {z d : Nat} {X : jX} {M : Nat → Int → Int} {Q : Option jV → jM → Prop} {x1 : Int} {x2 : Int} {x3 : Int} {x4 : Int} {x5 : Int} {t0 : Int}   (k1 : J l z X (d + 3) mX7_power (0, 0) 0 [jL 10, jN, jI x2, jN, jN, jN] [] (jG, M) (fun r μ => J l z X (d + 4) mX9_worms (0, 0) 81 [jR 0, jI x1, jI x2, jI x3, jI x4, jI x5, jL t0, jN, jN, jN] (r.toList ++ []) μ Q)) : J l z X (d + 4) mX9_worms (0, 0) 72 [jR 0, jI x1, jI x2, jI x3, jI x4, jI x5, jN, jN, jN, jN] [jL t0] (jG, M) Q :=
  (J_lstore dX9_worms_72 (Nat.le_of_ble_eq_true rfl) (J_ldc2 dX9_worms_74 (lw_X9_205) lcl_X9_205 rfl (J_iload_n dX9_worms_77 rfl (J_callS (a1 := (0, 0)) (a2 := (0, 0)) (mm' := mX7_power) (S := []) [jL 10, jI x2] md_X7_power is_X7_power dX9_worms_78 wm_X9_207 rfl rfl (Nat.le_of_ble_eq_true rfl) (Nat.le_of_ble_eq_true rfl) rfl k1))))
theorem b_X9_worms_81 {l : Launch} {z d : Nat} {X : jX} {M : Nat → Int → Int} {Q : Option jV → jM → Prop} {x1 : Int} {x2 : Int} {x3 : Int} {x4 : Int} {x5 : Int} {x6 : Int} {t0 : Int}   (k1 : x5 ≠ 0 → J l z X (d + 4) mX9_worms (0, 0) 95 [jR 0, jI x1, jI x2, jI x3, jI x4, jI x5, jL x6, jN, jL t0, jN] [jL t0] (jG, M) Q) (k2 : x5 = 0 → J l z X (d + 4) mX9_worms (0, 0) 95 [jR 0, jI x1, jI x2, jI x3, jI x4, jI x5, jL x6, jN, jL t0, jN] [jL x6] (jG, M) Q) : J l z X (d + 4) mX9_worms (0, 0) 81 [jR 0, jI x1, jI x2, jI x3, jI x4, jI x5, jL x6, jN, jN, jN] [jL t0] (jG, M) Q :=
  (J_lstore dX9_worms_81 (Nat.le_of_ble_eq_true rfl) (J_iload dX9_worms_83 rfl (J_if_ne dX9_worms_85 (tgt := 93) (by decide) (fun c1 => (J_lload dX9_worms_93 rfl (k1 c1))) (fun c1 => (J_lload dX9_worms_88 rfl (J_goto dX9_worms_90 (tgt := 95) (by decide) (k2 c1)))))))
theorem b_X9_worms_95 {l : Launch} {z d : Nat} {X : jX} {M : Nat → Int → Int} {Q : Option jV → jM → Prop} {x1 : Int} {x2 : Int} {x3 : Int} {x4 : Int} {x5 : Int} {x6 : Int} {x8 : Int} {t0 : Int}   (k1 : J l z X (d + 3) mX7_commonDivisor (0, 0) 0 [jL x6, jN, jL x8, jN, jN, jN, jN] [] (jG, M) (fun r μ => J l z X (d + 4) mX9_worms (0, 0) 102 [jR 0, jI x1, jI x2, jI x3, jI x4, jI x5, jL x6, jN, jL x8, jN] (r.toList ++ [jL t0]) μ Q)) : J l z X (d + 4) mX9_worms (0, 0) 95 [jR 0, jI x1, jI x2, jI x3, jI x4, jI x5, jL x6, jN, jL x8, jN] [jL t0] (jG, M) Q :=
  (J_lload dX9_worms_95 rfl (J_lload dX9_worms_97 rfl (J_callS (a1 := (0, 0)) (a2 := (0, 0)) (mm' := mX7_commonDivisor) (S := [jL t0]) [jL x6, jL x8] md_X7_commonDivisor is_X7_commonDivisor dX9_worms_99 wm_X9_211 rfl rfl (Nat.le_of_ble_eq_true rfl) (Nat.le_of_ble_eq_true rfl) rfl k1)))
theorem b_X9_worms_102 {l : Launch} {z d : Nat} {X : jX} {M : Nat → Int → Int} {Q : Option jV → jM → Prop} {x1 : Int} {x2 : Int} {x3 : Int} {x4 : Int} {x5 : Int} {x6 : Int} {x8 : Int} {t0 : Int} {t1 : Int}  (s1 : 0 ≤ t0) (s2 : 0 < t1) (k1 : Q (some (jL (t0 / t1))) (jG, M)) : J l z X (d + 4) mX9_worms (0, 0) 102 [jR 0, jI x1, jI x2, jI x3, jI x4, jI x5, jL x6, jN, jL x8, jN] [jL t1, jL t0] (jG, M) Q :=
  (J_ldiv dX9_worms_102 s1 s2 (J_lret dX9_worms_103 rfl k1))
theorem b_X9_year_0 {l : Launch} {z d : Nat} {X : jX} {M : Nat → Int → Int} {Q : Option jV → jM → Prop} {x1 : Int} {x2 : Int} {x3 : Int}   (k1 : 0 ≤ x1 ∧ x1 ≤ 9999 → 1 ≤ x2 ∧ x2 ≤ 99 → 0 ≤ x3 ∧ x3 ≤ 2 → J l z X (d + 4) mX8_live (0, 0) 0 [jR 71, jR 1, jI x1, jI x2, jN, jN, jN] [] (jG, M) (fun r μ => J l z X (d + 5) mX9_year (0, 0) 46 [jR 0, jI x1, jI x2, jI x3] (r.toList ++ []) μ Q)) (k2 : 0 ≤ x1 ∧ x1 ≤ 9999 → 1 ≤ x2 ∧ x2 ≤ 99 → ¬ (0 ≤ x3 ∧ x3 ≤ 2) → Q (some (jI (-2))) (jG, M)) (k3 : 0 ≤ x1 ∧ x1 ≤ 9999 → ¬ (1 ≤ x2 ∧ x2 ≤ 99) → Q (some (jI (-2))) (jG, M)) (k4 : ¬ (0 ≤ x1 ∧ x1 ≤ 9999) → Q (some (jI (-2))) (jG, M)) : J l z X (d + 5) mX9_year (0, 0) 0 [jR 0, jI x1, jI x2, jI x3] [] (jG, M) Q :=
  (J_iload_n dX9_year_0 rfl (J_iconst dX9_year_1 jc_0 (J_sipush dX9_year_2 jc_9999 jsp_9999 (J_callS (a1 := (0, 0)) (a2 := (0, 0)) (mm' := mX9_within) (S := []) [jI x1, jI 0, jI 9999] md_X9_within is_X9_within dX9_year_5 wm_X9_65 rfl rfl (Nat.le_of_ble_eq_true rfl) (Nat.le_of_ble_eq_true rfl) rfl (c_X9_within   (fun c1 => (J_if_eq dX9_year_8 (tgt := 30) (by decide) (fun c => absurd c (by decide)) (fun _ => (J_iload_n dX9_year_11 rfl (J_iconst dX9_year_12 jc_1 (J_bipush dX9_year_13 jc_99 jb_99 (J_callS (a1 := (0, 0)) (a2 := (0, 0)) (mm' := mX9_within) (S := []) [jI x2, jI 1, jI 99] md_X9_within is_X9_within dX9_year_15 wm_X9_65 rfl rfl (Nat.le_of_ble_eq_true rfl) (Nat.le_of_ble_eq_true rfl) rfl (c_X9_within   (fun c2 => (J_if_eq dX9_year_18 (tgt := 30) (by decide) (fun c => absurd c (by decide)) (fun _ => (J_iload_n dX9_year_21 rfl (J_iconst dX9_year_22 jc_0 (J_iconst dX9_year_23 jc_2 (J_callS (a1 := (0, 0)) (a2 := (0, 0)) (mm' := mX9_within) (S := []) [jI x3, jI 0, jI 2] md_X9_within is_X9_within dX9_year_24 wm_X9_65 rfl rfl (Nat.le_of_ble_eq_true rfl) (Nat.le_of_ble_eq_true rfl) rfl (c_X9_within   (fun c3 => (J_if_ne dX9_year_27 (tgt := 33) (by decide) (fun _ => (J_aload_n dX9_year_33 rfl (J_getR (k := 6) jcl_X9 dX9_year_34 wf_X9_54 g_0 (Nat.le_of_ble_eq_true rfl) rfl rfl (J_aload_n dX9_year_37 rfl (J_getR (k := 0) jcl_X9 dX9_year_38 wf_X9_12 g_0 (Nat.le_of_ble_eq_true rfl) rfl rfl (J_iload_n dX9_year_41 rfl (J_iload_n dX9_year_42 rfl (J_callV (a1 := (0, 0)) (a2 := (0, 0)) (mm' := mX8_live) (S := []) [jR 1, jI x1, jI x2] md_X8_live im_X8_live se_X8_live dX9_year_43 wm_X9_215 jcl_X8.1 rfl g_71 rfl rfl (Nat.le_of_ble_eq_true rfl) (Nat.le_of_ble_eq_true rfl) rfl (k1 c1 c2 c3))))))))) (fun c => absurd c (by decide)))) (fun c3 => (J_if_ne dX9_year_27 (tgt := 33) (by decide) (fun c => absurd c (by decide)) (fun _ => (J_bipush dX9_year_30 jc_m2 jb_m2 (J_iret dX9_year_32 rfl (k2 c1 c2 c3)))))))))))))) (fun c2 => (J_if_eq dX9_year_18 (tgt := 30) (by decide) (fun _ => (J_bipush dX9_year_30 jc_m2 jb_m2 (J_iret dX9_year_32 rfl (k3 c1 c2)))) (fun c => absurd c (by decide)))))))))))) (fun c1 => (J_if_eq dX9_year_8 (tgt := 30) (by decide) (fun _ => (J_bipush dX9_year_30 jc_m2 jb_m2 (J_iret dX9_year_32 rfl (k4 c1)))) (fun c => absurd c (by decide)))))))))
theorem b_X9_year_46 {l : Launch} {z d : Nat} {X : jX} {M : Nat → Int → Int} {Q : Option jV → jM → Prop} {x1 : Int} {x2 : Int} {x3 : Int}   (k1 : x3 ≠ 0 → x3 ≠ 1 → Q (some (jI (M 71 1))) (jG, M)) (k2 : x3 ≠ 0 → x3 = 1 → J l z X (d + 4) mX1_oldestOne (0, 0) 0 [jR 72, jN, jN, jN] [] (jG, M) (fun r μ => J l z X (d + 5) mX9_year (0, 0) 76 [jR 0, jI x1, jI x2, jI x3] (r.toList ++ []) μ Q)) (k3 : x3 = 0 → J l z X (d + 4) mX1_looksTogether (0, 0) 0 [jR 72, jN, jN] [] (jG, M) (fun r μ => J l z X (d + 5) mX9_year (0, 0) 60 [jR 0, jI x1, jI x2, jI x3] (r.toList ++ []) μ Q)) : J l z X (d + 5) mX9_year (0, 0) 46 [jR 0, jI x1, jI x2, jI x3] [] (jG, M) Q :=
  (J_iload_n dX9_year_46 rfl (J_if_ne dX9_year_47 (tgt := 61) (by decide) (fun c1 => (J_iload_n dX9_year_61 rfl (J_iconst dX9_year_62 jc_1 (J_icmp_ne dX9_year_63 (tgt := 79) (by decide) (fun c2 => (J_aload_n dX9_year_79 rfl (J_getR (k := 6) jcl_X9 dX9_year_80 wf_X9_54 g_0 (Nat.le_of_ble_eq_true rfl) rfl rfl (J_getIN (k := 1) (kz := 1) jcl_X8 dX9_year_83 wf_X9_226 g_71 (Nat.le_of_ble_eq_true rfl) rfl rfl (J_iret dX9_year_86 rfl (k1 c1 c2)))))) (fun c2 => (J_aload_n dX9_year_66 rfl (J_getR (k := 6) jcl_X9 dX9_year_67 wf_X9_54 g_0 (Nat.le_of_ble_eq_true rfl) rfl rfl (J_getRN (k := 0) jcl_X8 dX9_year_70 wf_X9_219 g_71 (Nat.le_of_ble_eq_true rfl) rfl rfl (J_callV (a1 := (0, 0)) (a2 := (0, 0)) (mm' := mX1_oldestOne) (S := []) [] md_X1_oldestOne im_X1_oldestOne se_X1_oldestOne dX9_year_73 wm_X9_223 jcl_X1.1 rfl g_72 rfl rfl (Nat.le_of_ble_eq_true rfl) (Nat.le_of_ble_eq_true rfl) rfl (k2 c1 c2)))))))))) (fun c1 => (J_aload_n dX9_year_50 rfl (J_getR (k := 6) jcl_X9 dX9_year_51 wf_X9_54 g_0 (Nat.le_of_ble_eq_true rfl) rfl rfl (J_getRN (k := 0) jcl_X8 dX9_year_54 wf_X9_219 g_71 (Nat.le_of_ble_eq_true rfl) rfl rfl (J_callV (a1 := (0, 0)) (a2 := (0, 0)) (mm' := mX1_looksTogether) (S := []) [] md_X1_looksTogether im_X1_looksTogether se_X1_looksTogether dX9_year_57 wm_X9_220 jcl_X1.1 rfl g_72 rfl rfl (Nat.le_of_ble_eq_true rfl) (Nat.le_of_ble_eq_true rfl) rfl (k3 c1))))))))
theorem b_X9_year_60 {l : Launch} {z d : Nat} {X : jX} {M : Nat → Int → Int} {Q : Option jV → jM → Prop} {x1 : Int} {x2 : Int} {x3 : Int} {t0 : Int}   (k1 : Q (some (jI t0)) (jG, M)) : J l z X (d + 5) mX9_year (0, 0) 60 [jR 0, jI x1, jI x2, jI x3] [jI t0] (jG, M) Q :=
  (J_iret dX9_year_60 rfl k1)
theorem b_X9_year_76 {l : Launch} {z d : Nat} {X : jX} {M : Nat → Int → Int} {Q : Option jV → jM → Prop} {x1 : Int} {x2 : Int} {x3 : Int} {t0 : Int}   (k1 : Q (some (jI t0)) (jG, M)) : J l z X (d + 5) mX9_year (0, 0) 76 [jR 0, jI x1, jI x2, jI x3] [jI t0] (jG, M) Q :=
  (J_goto dX9_year_76 (tgt := 86) (by decide) (J_iret dX9_year_86 rfl k1))
theorem b_X9_image_0 {l : Launch} {z d : Nat} {X : jX} {M : Nat → Int → Int} {Q : Option jV → jM → Prop} {x1 : Int}  (s1 : 0 ≤ x1 ∧ x1 ≤ 1 → 0 ≤ x1) (s2 : 0 ≤ x1 ∧ x1 ≤ 1 → x1 < 2) (k1 : 0 ≤ x1 ∧ x1 ≤ 1 → J l z X (d + 2) mX2_keep (0, 0) 0 [jR (78 + 9 * x1.toNat), jR 1, jR 68] [] (jG, M) (fun r μ => J l z X (d + 3) mX9_image (0, 0) 29 [jR 0, jI x1] (r.toList ++ []) μ Q)) (k2 : ¬ (0 ≤ x1 ∧ x1 ≤ 1) → Q (some (jI (-2))) (jG, M)) : J l z X (d + 3) mX9_image (0, 0) 0 [jR 0, jI x1] [] (jG, M) Q :=
  (J_iload_n dX9_image_0 rfl (J_iconst dX9_image_1 jc_0 (J_iconst dX9_image_2 jc_1 (J_callS (a1 := (0, 0)) (a2 := (0, 0)) (mm' := mX9_within) (S := []) [jI x1, jI 0, jI 1] md_X9_within is_X9_within dX9_image_3 wm_X9_65 rfl rfl (Nat.le_of_ble_eq_true rfl) (Nat.le_of_ble_eq_true rfl) rfl (c_X9_within   (fun c1 => (J_if_ne dX9_image_6 (tgt := 12) (by decide) (fun _ => (J_aload_n dX9_image_12 rfl (J_getR (k := 7) jcl_X9 dX9_image_13 wf_X9_60 g_0 (Nat.le_of_ble_eq_true rfl) rfl rfl (J_iload_n dX9_image_16 rfl (J_aald4 dX9_image_17 g_77 (s1 c1) (s2 c1) (gr_77 (s1 c1) (s2 c1)).1 (J_aload_n dX9_image_18 rfl (J_getR (k := 0) jcl_X9 dX9_image_19 wf_X9_12 g_0 (Nat.le_of_ble_eq_true rfl) rfl rfl (J_aload_n dX9_image_22 rfl (J_getR (k := 5) jcl_X9 dX9_image_23 wf_X9_47 g_0 (Nat.le_of_ble_eq_true rfl) rfl rfl (J_callV (a1 := (0, 0)) (a2 := (0, 0)) (mm' := mX2_keep) (S := []) [jR 1, jR 68] md_X2_keep im_X2_keep se_X2_keep dX9_image_26 wm_X9_227 jcl_X2.1 rfl (gr_77 (s1 c1) (s2 c1)).2.1 rfl rfl (Nat.le_of_ble_eq_true rfl) (Nat.le_of_ble_eq_true rfl) rfl (k1 c1))))))))))) (fun c => absurd c (by decide)))) (fun c1 => (J_if_ne dX9_image_6 (tgt := 12) (by decide) (fun c => absurd c (by decide)) (fun _ => (J_bipush dX9_image_9 jc_m2 jb_m2 (J_iret dX9_image_11 rfl (k2 c1)))))))))))
theorem b_X9_image_29 {l : Launch} {z d : Nat} {X : jX} {M : Nat → Int → Int} {Q : Option jV → jM → Prop} {x1 : Int}   (k1 : Q (some (jI 1)) (jG, M)) : J l z X (d + 3) mX9_image (0, 0) 29 [jR 0, jI x1] [] (jG, M) Q :=
  (J_iconst dX9_image_29 jc_1 (J_iret dX9_image_30 rfl k1))
theorem b_X9_restore_0 {l : Launch} {z d : Nat} {X : jX} {M : Nat → Int → Int} {Q : Option jV → jM → Prop} {x1 : Int}  (s1 : 0 ≤ x1 ∧ x1 ≤ 1 → 0 ≤ x1) (s2 : 0 ≤ x1 ∧ x1 ≤ 1 → x1 < 2) (s3 : 0 ≤ x1 ∧ x1 ≤ 1 → (M (78 + 9 * x1.toNat) 2) ≠ 0 → 0 ≤ x1) (s4 : 0 ≤ x1 ∧ x1 ≤ 1 → (M (78 + 9 * x1.toNat) 2) ≠ 0 → x1 < 2) (k1 : 0 ≤ x1 ∧ x1 ≤ 1 → (M (78 + 9 * x1.toNat) 2) ≠ 0 → J l z X (d + 2) mX2_giveBack (0, 0) 0 [jR (78 + 9 * x1.toNat), jR 1, jR 68] [] (jG, M) (fun r μ => J l z X (d + 3) mX9_restore (0, 0) 44 [jR 0, jI x1] (r.toList ++ []) μ Q)) (k2 : 0 ≤ x1 ∧ x1 ≤ 1 → (M (78 + 9 * x1.toNat) 2) = 0 → Q (some (jI (-3))) (jG, M)) (k3 : ¬ (0 ≤ x1 ∧ x1 ≤ 1) → Q (some (jI (-2))) (jG, M)) : J l z X (d + 3) mX9_restore (0, 0) 0 [jR 0, jI x1] [] (jG, M) Q :=
  (J_iload_n dX9_restore_0 rfl (J_iconst dX9_restore_1 jc_0 (J_iconst dX9_restore_2 jc_1 (J_callS (a1 := (0, 0)) (a2 := (0, 0)) (mm' := mX9_within) (S := []) [jI x1, jI 0, jI 1] md_X9_within is_X9_within dX9_restore_3 wm_X9_65 rfl rfl (Nat.le_of_ble_eq_true rfl) (Nat.le_of_ble_eq_true rfl) rfl (c_X9_within   (fun c1 => (J_if_ne dX9_restore_6 (tgt := 12) (by decide) (fun _ => (J_aload_n dX9_restore_12 rfl (J_getR (k := 7) jcl_X9 dX9_restore_13 wf_X9_60 g_0 (Nat.le_of_ble_eq_true rfl) rfl rfl (J_iload_n dX9_restore_16 rfl (J_aald4 dX9_restore_17 g_77 (s1 c1) (s2 c1) (gr_77 (s1 c1) (s2 c1)).1 (J_getIN (k := 2) (kz := 2) jcl_X2 dX9_restore_18 wf_X9_231 (gr_77 (s1 c1) (s2 c1)).2.1 (Nat.le_of_ble_eq_true rfl) rfl rfl (J_if_ne dX9_restore_21 (tgt := 27) (by decide) (fun c2 => (J_aload_n dX9_restore_27 rfl (J_getR (k := 7) jcl_X9 dX9_restore_28 wf_X9_60 g_0 (Nat.le_of_ble_eq_true rfl) rfl rfl (J_iload_n dX9_restore_31 rfl (J_aald4 dX9_restore_32 g_77 (s3 c1 c2) (s4 c1 c2) (gr_77 (s3 c1 c2) (s4 c1 c2)).1 (J_aload_n dX9_restore_33 rfl (J_getR (k := 0) jcl_X9 dX9_restore_34 wf_X9_12 g_0 (Nat.le_of_ble_eq_true rfl) rfl rfl (J_aload_n dX9_restore_37 rfl (J_getR (k := 5) jcl_X9 dX9_restore_38 wf_X9_47 g_0 (Nat.le_of_ble_eq_true rfl) rfl rfl (J_callV (a1 := (0, 0)) (a2 := (0, 0)) (mm' := mX2_giveBack) (S := []) [jR 1, jR 68] md_X2_giveBack im_X2_giveBack se_X2_giveBack dX9_restore_41 wm_X9_235 jcl_X2.1 rfl (gr_77 (s3 c1 c2) (s4 c1 c2)).2.1 rfl rfl (Nat.le_of_ble_eq_true rfl) (Nat.le_of_ble_eq_true rfl) rfl (k1 c1 c2))))))))))) (fun c2 => (J_bipush dX9_restore_24 jc_m3 jb_m3 (J_iret dX9_restore_26 rfl (k2 c1 c2))))))))))) (fun c => absurd c (by decide)))) (fun c1 => (J_if_ne dX9_restore_6 (tgt := 12) (by decide) (fun c => absurd c (by decide)) (fun _ => (J_bipush dX9_restore_9 jc_m2 jb_m2 (J_iret dX9_restore_11 rfl (k3 c1)))))))))))
theorem b_X9_restore_44 {l : Launch} {z d : Nat} {X : jX} {M : Nat → Int → Int} {Q : Option jV → jM → Prop} {x1 : Int}   (k1 : Q (some (jI 1)) (jG, M)) : J l z X (d + 3) mX9_restore (0, 0) 44 [jR 0, jI x1] [] (jG, M) Q :=
  (J_iconst dX9_restore_44 jc_1 (J_iret dX9_restore_45 rfl k1))
theorem jsw_X9_told_1 {l : Launch} {z d : Nat} {X : jX} {a : Nat × Nat} {L S : List jV} {μ : jM} {Q : Option jV → jM → Prop} {x : Int} (kd : (x < 0 ∨ 5 < x) → J l z X d mX9_told a 88 L S μ Q) (k0 : x = 0 → J l z X d mX9_told a 40 L S μ Q) (k1 : x = 1 → J l z X d mX9_told a 48 L S μ Q) (k2 : x = 2 → J l z X d mX9_told a 56 L S μ Q) (k3 : x = 3 → J l z X d mX9_told a 64 L S μ Q) (k4 : x = 4 → J l z X d mX9_told a 72 L S μ Q) (k5 : x = 5 → J l z X d mX9_told a 80 L S μ Q) : J l z X d mX9_told a 1 L (jI x :: S) μ Q := by
  refine J_switch (T := fun k => match k with | 0 => 40 | 1 => 48 | 2 => 56 | 3 => 64 | 4 => 72 | _ => 80) dX9_told_1 (tgt := 88) (by decide) (fun k hk => ?_) kd (fun k hk hx => ?_)
  · have hk2 : k < 6 := by omega
    revert hk2
    revert k
    intro k hk hk2
    have hall : ∀ k, k < 6 → ∃ off : Int, (#[39, 47, 55, 63, 71, 79] : Array Int)[k]? = some off ∧ ((1 : Nat) : Int) + off = (((fun k => match k with | 0 => 40 | 1 => 48 | 2 => 56 | 3 => 64 | 4 => 72 | _ => 80 : Nat → Nat) k : Nat) : Int) := by
      intro k hk
      match k, hk with
      | 0, _ => exact ⟨39, rfl, by decide⟩
      | 1, _ => exact ⟨47, rfl, by decide⟩
      | 2, _ => exact ⟨55, rfl, by decide⟩
      | 3, _ => exact ⟨63, rfl, by decide⟩
      | 4, _ => exact ⟨71, rfl, by decide⟩
      | 5, _ => exact ⟨79, rfl, by decide⟩
    exact hall k hk2
  · have hk2 : k < 6 := by omega
    match k, hk2, hx with
    | 0, _, hx => exact k0 (by rw [hx]; rfl)
    | 1, _, hx => exact k1 (by rw [hx]; rfl)
    | 2, _, hx => exact k2 (by rw [hx]; rfl)
    | 3, _, hx => exact k3 (by rw [hx]; rfl)
    | 4, _, hx => exact k4 (by rw [hx]; rfl)
    | 5, _, hx => exact k5 (by rw [hx]; rfl)
theorem b_X9_told_0 {l : Launch} {z d : Nat} {X : jX} {M : Nat → Int → Int} {Q : Option jV → jM → Prop} {x1 : Int}  (s1 : (x1 < 0 ∨ 5 < x1) → 10 ≤ x1 → 0 ≤ x1) (s2 : (x1 < 0 ∨ 5 < x1) → 10 ≤ x1 → jIn ((x1 / 10) - 1)) (k1 : (x1 < 0 ∨ 5 < x1) → 10 ≤ x1 → J l z X (d + 1) mX9_toldOf (0, 0) 0 [jR 0, jI ((x1 / 10) - 1), jI (x1 % 10)] [] (jG, M) (fun r μ => J l z X (d + 2) mX9_told (0, 0) 113 [jR 0, jI x1] (r.toList ++ []) μ Q)) (k2 : (x1 < 0 ∨ 5 < x1) → x1 < 10 → J l z X (d + 2) mX9_told (0, 0) 113 [jR 0, jI x1] [jI (-2)] (jG, M) Q) (k3 : x1 = 0 → Q (some (jI (M 6 4))) (jG, M)) (k4 : x1 = 1 → Q (some (jI (M 1 4))) (jG, M)) (k5 : x1 = 2 → Q (some (jI (M 1 5))) (jG, M)) (k6 : x1 = 3 → Q (some (jI (M 1 6))) (jG, M)) (k7 : x1 = 4 → Q (some (jI (M 1 7))) (jG, M)) (k8 : x1 = 5 → Q (some (jI (M 68 2))) (jG, M)) : J l z X (d + 2) mX9_told (0, 0) 0 [jR 0, jI x1] [] (jG, M) Q :=
  (J_iload_n dX9_told_0 rfl (jsw_X9_told_1 (fun c1 => (J_iload_n dX9_told_88 rfl (J_bipush dX9_told_89 jc_10 jb_10 (J_icmp_ge dX9_told_91 (tgt := 99) (by decide) (fun c2 => (J_aload_n dX9_told_99 rfl (J_iload_n dX9_told_100 rfl (J_bipush dX9_told_101 jc_10 jb_10 (J_idiv dX9_told_103 (s1 c1 c2) (by decide) (J_iconst dX9_told_104 jc_1 (J_isub dX9_told_105 (s2 c1 c2) (J_iload_n dX9_told_106 rfl (J_bipush dX9_told_107 jc_10 jb_10 (J_irem dX9_told_109 (s1 c1 c2) (by decide) (J_callV (a1 := (0, 0)) (a2 := (0, 0)) (mm' := mX9_toldOf) (S := []) [jI ((x1 / 10) - 1), jI (x1 % 10)] md_X9_toldOf im_X9_toldOf se_X9_toldOf dX9_told_110 wm_X9_241 jcl_X9.1 rfl g_0 rfl rfl (Nat.le_of_ble_eq_true rfl) (Nat.le_of_ble_eq_true rfl) rfl (k1 c1 c2)))))))))))) (fun c2 => (J_bipush dX9_told_94 jc_m2 jb_m2 (J_goto dX9_told_96 (tgt := 113) (by decide) (k2 c1 c2)))))))) (fun c1 => (J_aload_n dX9_told_40 rfl (J_getR (k := 1) jcl_X9 dX9_told_41 wf_X9_19 g_0 (Nat.le_of_ble_eq_true rfl) rfl rfl (J_getIN (k := 4) (kz := 4) jcl_X4 dX9_told_44 wf_X9_98 g_6 (Nat.le_of_ble_eq_true rfl) rfl rfl (J_iret dX9_told_47 rfl (k3 c1)))))) (fun c1 => (J_aload_n dX9_told_48 rfl (J_getR (k := 0) jcl_X9 dX9_told_49 wf_X9_12 g_0 (Nat.le_of_ble_eq_true rfl) rfl rfl (J_getIN (k := 4) (kz := 4) jcl_X1 dX9_told_52 wf_X9_238 g_1 (Nat.le_of_ble_eq_true rfl) rfl rfl (J_iret dX9_told_55 rfl (k4 c1)))))) (fun c1 => (J_aload_n dX9_told_56 rfl (J_getR (k := 0) jcl_X9 dX9_told_57 wf_X9_12 g_0 (Nat.le_of_ble_eq_true rfl) rfl rfl (J_getIN (k := 5) (kz := 5) jcl_X1 dX9_told_60 wf_X9_85 g_1 (Nat.le_of_ble_eq_true rfl) rfl rfl (J_iret dX9_told_63 rfl (k5 c1)))))) (fun c1 => (J_aload_n dX9_told_64 rfl (J_getR (k := 0) jcl_X9 dX9_told_65 wf_X9_12 g_0 (Nat.le_of_ble_eq_true rfl) rfl rfl (J_getIN (k := 6) (kz := 6) jcl_X1 dX9_told_68 wf_X9_89 g_1 (Nat.le_of_ble_eq_true rfl) rfl rfl (J_iret dX9_told_71 rfl (k6 c1)))))) (fun c1 => (J_aload_n dX9_told_72 rfl (J_getR (k := 0) jcl_X9 dX9_told_73 wf_X9_12 g_0 (Nat.le_of_ble_eq_true rfl) rfl rfl (J_getIN (k := 7) (kz := 7) jcl_X1 dX9_told_76 wf_X9_92 g_1 (Nat.le_of_ble_eq_true rfl) rfl rfl (J_iret dX9_told_79 rfl (k7 c1)))))) (fun c1 => (J_aload_n dX9_told_80 rfl (J_getR (k := 5) jcl_X9 dX9_told_81 wf_X9_47 g_0 (Nat.le_of_ble_eq_true rfl) rfl rfl (J_getIN (k := 2) (kz := 2) jcl_X6 dX9_told_84 wf_X9_181 g_68 (Nat.le_of_ble_eq_true rfl) rfl rfl (J_iret dX9_told_87 rfl (k8 c1))))))))
theorem b_X9_told_113 {l : Launch} {z d : Nat} {X : jX} {M : Nat → Int → Int} {Q : Option jV → jM → Prop} {x1 : Int} {t0 : Int}   (k1 : Q (some (jI t0)) (jG, M)) : J l z X (d + 2) mX9_told (0, 0) 113 [jR 0, jI x1] [jI t0] (jG, M) Q :=
  (J_iret dX9_told_113 rfl k1)
theorem jsw_X9_toldOf_15 {l : Launch} {z d : Nat} {X : jX} {a : Nat × Nat} {L S : List jV} {μ : jM} {Q : Option jV → jM → Prop} {x : Int} (kd : (x < 0 ∨ 3 < x) → J l z X d mX9_toldOf a 84 L S μ Q) (k0 : x = 0 → J l z X d mX9_toldOf a 44 L S μ Q) (k1 : x = 1 → J l z X d mX9_toldOf a 54 L S μ Q) (k2 : x = 2 → J l z X d mX9_toldOf a 64 L S μ Q) (k3 : x = 3 → J l z X d mX9_toldOf a 74 L S μ Q) : J l z X d mX9_toldOf a 15 L (jI x :: S) μ Q := by
  refine J_switch (T := fun k => match k with | 0 => 44 | 1 => 54 | 2 => 64 | _ => 74) dX9_toldOf_15 (tgt := 84) (by decide) (fun k hk => ?_) kd (fun k hk hx => ?_)
  · have hk2 : k < 4 := by omega
    revert hk2
    revert k
    intro k hk hk2
    have hall : ∀ k, k < 4 → ∃ off : Int, (#[29, 39, 49, 59] : Array Int)[k]? = some off ∧ ((15 : Nat) : Int) + off = (((fun k => match k with | 0 => 44 | 1 => 54 | 2 => 64 | _ => 74 : Nat → Nat) k : Nat) : Int) := by
      intro k hk
      match k, hk with
      | 0, _ => exact ⟨29, rfl, by decide⟩
      | 1, _ => exact ⟨39, rfl, by decide⟩
      | 2, _ => exact ⟨49, rfl, by decide⟩
      | 3, _ => exact ⟨59, rfl, by decide⟩
    exact hall k hk2
  · have hk2 : k < 4 := by omega
    match k, hk2, hx with
    | 0, _, hx => exact k0 (by rw [hx]; rfl)
    | 1, _, hx => exact k1 (by rw [hx]; rfl)
    | 2, _, hx => exact k2 (by rw [hx]; rfl)
    | 3, _, hx => exact k3 (by rw [hx]; rfl)
theorem b_X9_toldOf_0 {l : Launch} {z d : Nat} {X : jX} {M : Nat → Int → Int} {Q : Option jV → jM → Prop} {x1 : Int} {x2 : Int}  (s1 : hasB (M 1 4) x1 = true → x2 = 0 → 0 ≤ x1) (s2 : hasB (M 1 4) x1 = true → x2 = 0 → x1 < 6) (s3 : hasB (M 1 4) x1 = true → x2 = 1 → 0 ≤ x1) (s4 : hasB (M 1 4) x1 = true → x2 = 1 → x1 < 6) (s5 : hasB (M 1 4) x1 = true → x2 = 2 → 0 ≤ x1) (s6 : hasB (M 1 4) x1 = true → x2 = 2 → x1 < 6) (s7 : hasB (M 1 4) x1 = true → x2 = 3 → 0 ≤ x1) (s8 : hasB (M 1 4) x1 = true → x2 = 3 → x1 < 6) (k1 : hasB (M 1 4) x1 = true → (x2 < 0 ∨ 3 < x2) → Q (some (jI (-2))) (jG, M)) (k2 : hasB (M 1 4) x1 = true → x2 = 0 → Q (some (jI (M 2 x1))) (jG, M)) (k3 : hasB (M 1 4) x1 = true → x2 = 1 → Q (some (jI (M 3 x1))) (jG, M)) (k4 : hasB (M 1 4) x1 = true → x2 = 2 → Q (some (jI (M 4 x1))) (jG, M)) (k5 : hasB (M 1 4) x1 = true → x2 = 3 → Q (some (jI (M 5 x1))) (jG, M)) (k6 : hasB (M 1 4) x1 = false → Q (some (jI (-2))) (jG, M)) : J l z X (d + 1) mX9_toldOf (0, 0) 0 [jR 0, jI x1, jI x2] [] (jG, M) Q :=
  (J_aload_n dX9_toldOf_0 rfl (J_getR (k := 0) jcl_X9 dX9_toldOf_1 wf_X9_12 g_0 (Nat.le_of_ble_eq_true rfl) rfl rfl (J_iload_n dX9_toldOf_4 rfl (J_callV (a1 := (0, 0)) (a2 := (0, 0)) (mm' := mX1_has) (S := []) [jI x1] md_X1_has im_X1_has se_X1_has dX9_toldOf_5 wm_X9_77 jcl_X1.1 rfl g_1 rfl rfl (Nat.le_of_ble_eq_true rfl) (Nat.le_of_ble_eq_true rfl) rfl (c_X1_has hi_1  (fun c1 => (J_if_ne dX9_toldOf_8 (tgt := 14) (by decide) (fun _ => (J_iload_n dX9_toldOf_14 rfl (jsw_X9_toldOf_15 (fun c2 => (J_bipush dX9_toldOf_84 jc_m2 jb_m2 (J_iret dX9_toldOf_86 rfl (k1 c1 c2)))) (fun c2 => (J_aload_n dX9_toldOf_44 rfl (J_getR (k := 0) jcl_X9 dX9_toldOf_45 wf_X9_12 g_0 (Nat.le_of_ble_eq_true rfl) rfl rfl (J_getRN (k := 0) jcl_X1 dX9_toldOf_48 wf_X9_119 g_1 (Nat.le_of_ble_eq_true rfl) rfl rfl (J_iload_n dX9_toldOf_51 rfl (J_iald dX9_toldOf_52 g_2 (s1 c1 c2) (s2 c1 c2) (J_iret dX9_toldOf_53 rfl (k2 c1 c2)))))))) (fun c2 => (J_aload_n dX9_toldOf_54 rfl (J_getR (k := 0) jcl_X9 dX9_toldOf_55 wf_X9_12 g_0 (Nat.le_of_ble_eq_true rfl) rfl rfl (J_getRN (k := 1) jcl_X1 dX9_toldOf_58 wf_X9_142 g_1 (Nat.le_of_ble_eq_true rfl) rfl rfl (J_iload_n dX9_toldOf_61 rfl (J_iald dX9_toldOf_62 g_3 (s3 c1 c2) (s4 c1 c2) (J_iret dX9_toldOf_63 rfl (k3 c1 c2)))))))) (fun c2 => (J_aload_n dX9_toldOf_64 rfl (J_getR (k := 0) jcl_X9 dX9_toldOf_65 wf_X9_12 g_0 (Nat.le_of_ble_eq_true rfl) rfl rfl (J_getRN (k := 2) jcl_X1 dX9_toldOf_68 wf_X9_172 g_1 (Nat.le_of_ble_eq_true rfl) rfl rfl (J_iload_n dX9_toldOf_71 rfl (J_iald dX9_toldOf_72 g_4 (s5 c1 c2) (s6 c1 c2) (J_iret dX9_toldOf_73 rfl (k4 c1 c2)))))))) (fun c2 => (J_aload_n dX9_toldOf_74 rfl (J_getR (k := 0) jcl_X9 dX9_toldOf_75 wf_X9_12 g_0 (Nat.le_of_ble_eq_true rfl) rfl rfl (J_getRN (k := 3) jcl_X1 dX9_toldOf_78 wf_X9_123 g_1 (Nat.le_of_ble_eq_true rfl) rfl rfl (J_iload_n dX9_toldOf_81 rfl (J_iald dX9_toldOf_82 g_5 (s7 c1 c2) (s8 c1 c2) (J_iret dX9_toldOf_83 rfl (k5 c1 c2))))))))))) (fun c => absurd c (by decide)))) (fun c1 => (J_if_ne dX9_toldOf_8 (tgt := 14) (by decide) (fun c => absurd c (by decide)) (fun _ => (J_bipush dX9_toldOf_11 jc_m2 jb_m2 (J_iret dX9_toldOf_13 rfl (k6 c1)))))))))))
theorem b_X9_liveDays_0 {l : Launch} {z d : Nat} {X : jX} {M : Nat → Int → Int} {Q : Option jV → jM → Prop}    (k1 : J l z X (d + 4) mX4_read (0, 0) 0 [jR 6, jN, jN, jN, jN] [] (jG, M) (fun r μ => J l z X (d + 5) mX9_liveDays (0, 0) 7 [jR 0] (r.toList ++ []) μ Q)) : J l z X (d + 5) mX9_liveDays (0, 0) 0 [jR 0] [] (jG, M) Q :=
  (J_aload_n dX9_liveDays_0 rfl (J_getR (k := 1) jcl_X9 dX9_liveDays_1 wf_X9_19 g_0 (Nat.le_of_ble_eq_true rfl) rfl rfl (J_callV (a1 := (0, 0)) (a2 := (0, 0)) (mm' := mX4_read) (S := []) [] md_X4_read im_X4_read se_X4_read dX9_liveDays_4 wm_X9_101 jcl_X4.1 rfl g_6 rfl rfl (Nat.le_of_ble_eq_true rfl) (Nat.le_of_ble_eq_true rfl) rfl k1)))
theorem b_X9_liveDays_7 {l : Launch} {z d : Nat} {X : jX} {M : Nat → Int → Int} {Q : Option jV → jM → Prop} {t0 : Int}   (k1 : t0 = (-6) → J l z X (d + 4) mX0_live (0, 0) 0 [jR 11, jR 1, jR 6, jN, jN, jN] [] (jG, M) (fun r μ => J l z X (d + 5) mX9_liveDays (0, 0) 30 [jR 0] (r.toList ++ []) μ Q)) (k2 : t0 ≠ (-6) → Q (some (jI (-5))) (jG, M)) : J l z X (d + 5) mX9_liveDays (0, 0) 7 [jR 0] [jI t0] (jG, M) Q :=
  (J_bipush dX9_liveDays_7 jc_m6 jb_m6 (J_icmp_eq dX9_liveDays_9 (tgt := 15) (by decide) (fun c1 => (J_aload_n dX9_liveDays_15 rfl (J_getR (k := 2) jcl_X9 dX9_liveDays_16 wf_X9_26 g_0 (Nat.le_of_ble_eq_true rfl) rfl rfl (J_aload_n dX9_liveDays_19 rfl (J_getR (k := 0) jcl_X9 dX9_liveDays_20 wf_X9_12 g_0 (Nat.le_of_ble_eq_true rfl) rfl rfl (J_aload_n dX9_liveDays_23 rfl (J_getR (k := 1) jcl_X9 dX9_liveDays_24 wf_X9_19 g_0 (Nat.le_of_ble_eq_true rfl) rfl rfl (J_callV (a1 := (0, 0)) (a2 := (0, 0)) (mm' := mX0_live) (S := []) [jR 1, jR 6] md_X0_live im_X0_live se_X0_live dX9_liveDays_27 wm_X9_244 jcl_X0.1 rfl g_11 rfl rfl (Nat.le_of_ble_eq_true rfl) (Nat.le_of_ble_eq_true rfl) rfl (k1 c1))))))))) (fun c1 => (J_bipush dX9_liveDays_12 jc_m5 jb_m5 (J_iret dX9_liveDays_14 rfl (k2 c1))))))
theorem b_X9_liveDays_30 {l : Launch} {z d : Nat} {X : jX} {M : Nat → Int → Int} {Q : Option jV → jM → Prop}    (k1 : (M 11 4) ≠ (-6) → Q (some (jI (-3))) (jG, M)) (k2 : (M 11 4) = (-6) → Q (some (jI 0)) (jG, M)) : J l z X (d + 5) mX9_liveDays (0, 0) 30 [jR 0] [] (jG, M) Q :=
  (J_aload_n dX9_liveDays_30 rfl (J_getR (k := 2) jcl_X9 dX9_liveDays_31 wf_X9_26 g_0 (Nat.le_of_ble_eq_true rfl) rfl rfl (J_getIN (k := 4) (kz := 4) jcl_X0 dX9_liveDays_34 wf_X9_110 g_11 (Nat.le_of_ble_eq_true rfl) rfl rfl (J_bipush dX9_liveDays_37 jc_m6 jb_m6 (J_icmp_ne dX9_liveDays_39 (tgt := 46) (by decide) (fun c1 => (J_bipush dX9_liveDays_46 jc_m3 jb_m3 (J_iret dX9_liveDays_48 rfl (k1 c1)))) (fun c1 => (J_iconst dX9_liveDays_42 jc_0 (J_goto dX9_liveDays_43 (tgt := 48) (by decide) (J_iret dX9_liveDays_48 rfl (k2 c1))))))))))
theorem b_X9_refuseKeeping_0 {l : Launch} {z d : Nat} {X : jX} {M : Nat → Int → Int} {Q : Option jV → jM → Prop} {x1 : Int} {x2 : Int} {x3 : Int} {x4 : Int}  (s1 : 0 ≤ x1 ∧ x1 ≤ 63 → (jand x1 (jxor (M 1 4) (-1))) = 0 → 0 ≤ x2 ∧ x2 ≤ 6 → 0 ≤ x3 ∧ x3 ≤ 6 → 0 ≤ x4 ∧ x4 ≤ 99 → 0 ≤ x1 ∧ x1 < 128) (k1 : 0 ≤ x1 ∧ x1 ≤ 63 → (jand x1 (jxor (M 1 4) (-1))) = 0 → 0 ≤ x2 ∧ x2 ≤ 6 → 0 ≤ x3 ∧ x3 ≤ 6 → 0 ≤ x4 ∧ x4 ≤ 99 → (popc x1) ≤ 3 → Q (some (jI 0)) (jG, M)) (k2 : 0 ≤ x1 ∧ x1 ≤ 63 → (jand x1 (jxor (M 1 4) (-1))) = 0 → 0 ≤ x2 ∧ x2 ≤ 6 → 0 ≤ x3 ∧ x3 ≤ 6 → 0 ≤ x4 ∧ x4 ≤ 99 → 3 < (popc x1) → Q (some (jI (-4))) (jG, M)) (k3 : 0 ≤ x1 ∧ x1 ≤ 63 → (jand x1 (jxor (M 1 4) (-1))) = 0 → 0 ≤ x2 ∧ x2 ≤ 6 → 0 ≤ x3 ∧ x3 ≤ 6 → ¬ (0 ≤ x4 ∧ x4 ≤ 99) → Q (some (jI (-2))) (jG, M)) (k4 : 0 ≤ x1 ∧ x1 ≤ 63 → (jand x1 (jxor (M 1 4) (-1))) = 0 → 0 ≤ x2 ∧ x2 ≤ 6 → ¬ (0 ≤ x3 ∧ x3 ≤ 6) → Q (some (jI (-2))) (jG, M)) (k5 : 0 ≤ x1 ∧ x1 ≤ 63 → (jand x1 (jxor (M 1 4) (-1))) = 0 → ¬ (0 ≤ x2 ∧ x2 ≤ 6) → Q (some (jI (-2))) (jG, M)) (k6 : 0 ≤ x1 ∧ x1 ≤ 63 → (jand x1 (jxor (M 1 4) (-1))) ≠ 0 → Q (some (jI (-1))) (jG, M)) (k7 : ¬ (0 ≤ x1 ∧ x1 ≤ 63) → Q (some (jI (-1))) (jG, M)) : J l z X (d + 1) mX9_refuseKeeping (0, 0) 0 [jR 0, jI x1, jI x2, jI x3, jI x4] [] (jG, M) Q :=
  (J_iload_n dX9_refuseKeeping_0 rfl (J_iconst dX9_refuseKeeping_1 jc_0 (J_bipush dX9_refuseKeeping_2 jc_63 jb_63 (J_callS (a1 := (0, 0)) (a2 := (0, 0)) (mm' := mX9_within) (S := []) [jI x1, jI 0, jI 63] md_X9_within is_X9_within dX9_refuseKeeping_4 wm_X9_65 rfl rfl (Nat.le_of_ble_eq_true rfl) (Nat.le_of_ble_eq_true rfl) rfl (c_X9_within   (fun c1 => (J_if_eq dX9_refuseKeeping_7 (tgt := 24) (by decide) (fun c => absurd c (by decide)) (fun _ => (J_iload_n dX9_refuseKeeping_10 rfl (J_aload_n dX9_refuseKeeping_11 rfl (J_getR (k := 0) jcl_X9 dX9_refuseKeeping_12 wf_X9_12 g_0 (Nat.le_of_ble_eq_true rfl) rfl rfl (J_getIN (k := 4) (kz := 4) jcl_X1 dX9_refuseKeeping_15 wf_X9_238 g_1 (Nat.le_of_ble_eq_true rfl) rfl rfl (J_iconst dX9_refuseKeeping_18 jc_m1 (J_ixor dX9_refuseKeeping_19 (J_iand dX9_refuseKeeping_20 (J_if_eq dX9_refuseKeeping_21 (tgt := 26) (by decide) (fun c2 => (J_iload_n dX9_refuseKeeping_26 rfl (J_iconst dX9_refuseKeeping_27 jc_0 (J_bipush dX9_refuseKeeping_28 jc_6 jb_6 (J_callS (a1 := (0, 0)) (a2 := (0, 0)) (mm' := mX9_within) (S := []) [jI x2, jI 0, jI 6] md_X9_within is_X9_within dX9_refuseKeeping_30 wm_X9_65 rfl rfl (Nat.le_of_ble_eq_true rfl) (Nat.le_of_ble_eq_true rfl) rfl (c_X9_within   (fun c3 => (J_if_eq dX9_refuseKeeping_33 (tgt := 57) (by decide) (fun c => absurd c (by decide)) (fun _ => (J_iload_n dX9_refuseKeeping_36 rfl (J_iconst dX9_refuseKeeping_37 jc_0 (J_bipush dX9_refuseKeeping_38 jc_6 jb_6 (J_callS (a1 := (0, 0)) (a2 := (0, 0)) (mm' := mX9_within) (S := []) [jI x3, jI 0, jI 6] md_X9_within is_X9_within dX9_refuseKeeping_40 wm_X9_65 rfl rfl (Nat.le_of_ble_eq_true rfl) (Nat.le_of_ble_eq_true rfl) rfl (c_X9_within   (fun c4 => (J_if_eq dX9_refuseKeeping_43 (tgt := 57) (by decide) (fun c => absurd c (by decide)) (fun _ => (J_iload dX9_refuseKeeping_46 rfl (J_iconst dX9_refuseKeeping_48 jc_0 (J_bipush dX9_refuseKeeping_49 jc_99 jb_99 (J_callS (a1 := (0, 0)) (a2 := (0, 0)) (mm' := mX9_within) (S := []) [jI x4, jI 0, jI 99] md_X9_within is_X9_within dX9_refuseKeeping_51 wm_X9_65 rfl rfl (Nat.le_of_ble_eq_true rfl) (Nat.le_of_ble_eq_true rfl) rfl (c_X9_within   (fun c5 => (J_if_ne dX9_refuseKeeping_54 (tgt := 60) (by decide) (fun _ => (J_iload_n dX9_refuseKeeping_60 rfl (J_callS (a1 := (0, 0)) (a2 := (0, 0)) (mm' := mJ6_bitCount_0f7a4) (S := []) [jI x1] md_J6_bitCount_0f7a4 is_J6_bitCount_0f7a4 dX9_refuseKeeping_61 wm_X9_186 rfl rfl (Nat.le_of_ble_eq_true rfl) (Nat.le_of_ble_eq_true rfl) rfl (c_J6_bitCount_0f7a4  (s1 c1 c2 c3 c4 c5) (J_iconst dX9_refuseKeeping_64 jc_3 (J_icmp_le dX9_refuseKeeping_65 (tgt := 73) (by decide) (fun c6 => (J_iconst dX9_refuseKeeping_73 jc_0 (J_iret dX9_refuseKeeping_74 rfl (k1 c1 c2 c3 c4 c5 c6)))) (fun c6 => (J_bipush dX9_refuseKeeping_68 jc_m4 jb_m4 (J_goto dX9_refuseKeeping_70 (tgt := 74) (by decide) (J_iret dX9_refuseKeeping_74 rfl (k2 c1 c2 c3 c4 c5 c6))))))))))) (fun c => absurd c (by decide)))) (fun c5 => (J_if_ne dX9_refuseKeeping_54 (tgt := 60) (by decide) (fun c => absurd c (by decide)) (fun _ => (J_bipush dX9_refuseKeeping_57 jc_m2 jb_m2 (J_iret dX9_refuseKeeping_59 rfl (k3 c1 c2 c3 c4 c5)))))))))))))) (fun c4 => (J_if_eq dX9_refuseKeeping_43 (tgt := 57) (by decide) (fun _ => (J_bipush dX9_refuseKeeping_57 jc_m2 jb_m2 (J_iret dX9_refuseKeeping_59 rfl (k4 c1 c2 c3 c4)))) (fun c => absurd c (by decide)))))))))))) (fun c3 => (J_if_eq dX9_refuseKeeping_33 (tgt := 57) (by decide) (fun _ => (J_bipush dX9_refuseKeeping_57 jc_m2 jb_m2 (J_iret dX9_refuseKeeping_59 rfl (k5 c1 c2 c3)))) (fun c => absurd c (by decide)))))))))) (fun c2 => (J_iconst dX9_refuseKeeping_24 jc_m1 (J_iret dX9_refuseKeeping_25 rfl (k6 c1 c2))))))))))))))) (fun c1 => (J_if_eq dX9_refuseKeeping_7 (tgt := 24) (by decide) (fun _ => (J_iconst dX9_refuseKeeping_24 jc_m1 (J_iret dX9_refuseKeeping_25 rfl (k7 c1)))) (fun c => absurd c (by decide)))))))))
