theorem dX0_init_0 : decode cX0_init 0 = .ok (.aload_n 0, 1) := by decide +kernel
theorem dX0_init_1 : decode cX0_init 1 = .ok (.invokespecial 3, 3) := by decide +kernel
theorem dX0_init_4 : decode cX0_init 4 = .ok (.aload_n 0, 1) := by decide +kernel
theorem dX0_init_5 : decode cX0_init 5 = .ok (.new 9, 3) := by decide +kernel
theorem dX0_init_8 : decode cX0_init 8 = .ok (.dup, 1) := by decide +kernel
theorem dX0_init_9 : decode cX0_init 9 = .ok (.invokespecial 11, 3) := by decide +kernel
theorem dX0_init_12 : decode cX0_init 12 = .ok (.putfield 12, 3) := by decide +kernel
theorem dX0_init_15 : decode cX0_init 15 = .ok (.aload_n 0, 1) := by decide +kernel
theorem dX0_init_16 : decode cX0_init 16 = .ok (.bipush 6, 2) := by decide +kernel
theorem dX0_init_18 : decode cX0_init 18 = .ok (.newarray .int, 2) := by decide +kernel
theorem dX0_init_20 : decode cX0_init 20 = .ok (.putfield 18, 3) := by decide +kernel
theorem dX0_init_23 : decode cX0_init 23 = .ok (.aload_n 0, 1) := by decide +kernel
theorem dX0_init_24 : decode cX0_init 24 = .ok (.bipush 60, 2) := by decide +kernel
theorem dX0_init_26 : decode cX0_init 26 = .ok (.newarray .int, 2) := by decide +kernel
theorem dX0_init_28 : decode cX0_init 28 = .ok (.putfield 24, 3) := by decide +kernel
theorem dX0_init_31 : decode cX0_init 31 = .ok (.return_, 1) := by decide +kernel
theorem dX0_live_0 : decode cX0_live 0 = .ok (.aload_n 0, 1) := by decide +kernel
theorem dX0_live_1 : decode cX0_live 1 = .ok (.getfield 12, 3) := by decide +kernel
theorem dX0_live_4 : decode cX0_live 4 = .ok (.aload_n 1, 1) := by decide +kernel
theorem dX0_live_5 : decode cX0_live 5 = .ok (.invokevirtual 27, 3) := by decide +kernel
theorem dX0_live_8 : decode cX0_live 8 = .ok (.aload_n 0, 1) := by decide +kernel
theorem dX0_live_9 : decode cX0_live 9 = .ok (.iconst 0, 1) := by decide +kernel
theorem dX0_live_10 : decode cX0_live 10 = .ok (.putfield 31, 3) := by decide +kernel
theorem dX0_live_13 : decode cX0_live 13 = .ok (.aload_n 0, 1) := by decide +kernel
theorem dX0_live_14 : decode cX0_live 14 = .ok (.bipush (-6), 2) := by decide +kernel
theorem dX0_live_16 : decode cX0_live 16 = .ok (.putfield 35, 3) := by decide +kernel
theorem dX0_live_19 : decode cX0_live 19 = .ok (.aload_n 0, 1) := by decide +kernel
theorem dX0_live_20 : decode cX0_live 20 = .ok (.bipush (-6), 2) := by decide +kernel
theorem dX0_live_22 : decode cX0_live 22 = .ok (.putfield 38, 3) := by decide +kernel
theorem dX0_live_25 : decode cX0_live 25 = .ok (.aload_n 0, 1) := by decide +kernel
theorem dX0_live_26 : decode cX0_live 26 = .ok (.bipush (-6), 2) := by decide +kernel
theorem dX0_live_28 : decode cX0_live 28 = .ok (.putfield 41, 3) := by decide +kernel
theorem dX0_live_31 : decode cX0_live 31 = .ok (.aload_n 0, 1) := by decide +kernel
theorem dX0_live_32 : decode cX0_live 32 = .ok (.bipush (-6), 2) := by decide +kernel
theorem dX0_live_34 : decode cX0_live 34 = .ok (.putfield 44, 3) := by decide +kernel
theorem dX0_live_37 : decode cX0_live 37 = .ok (.iconst 0, 1) := by decide +kernel
theorem dX0_live_38 : decode cX0_live 38 = .ok (.istore_n 3, 1) := by decide +kernel
theorem dX0_live_39 : decode cX0_live 39 = .ok (.iload_n 3, 1) := by decide +kernel
theorem dX0_live_40 : decode cX0_live 40 = .ok (.aload_n 2, 1) := by decide +kernel
theorem dX0_live_41 : decode cX0_live 41 = .ok (.getfield 47, 3) := by decide +kernel
theorem dX0_live_44 : decode cX0_live 44 = .ok (.if_icmp .ge 120, 3) := by decide +kernel
theorem dX0_live_47 : decode cX0_live 47 = .ok (.iload_n 3, 1) := by decide +kernel
theorem dX0_live_48 : decode cX0_live 48 = .ok (.bipush 60, 2) := by decide +kernel
theorem dX0_live_50 : decode cX0_live 50 = .ok (.if_icmp .ge 114, 3) := by decide +kernel
theorem dX0_live_53 : decode cX0_live 53 = .ok (.aload_n 2, 1) := by decide +kernel
theorem dX0_live_54 : decode cX0_live 54 = .ok (.getfield 50, 3) := by decide +kernel
theorem dX0_live_57 : decode cX0_live 57 = .ok (.iload_n 3, 1) := by decide +kernel
theorem dX0_live_58 : decode cX0_live 58 = .ok (.iaload, 1) := by decide +kernel
theorem dX0_live_59 : decode cX0_live 59 = .ok (.istore 4, 2) := by decide +kernel
theorem dX0_live_61 : decode cX0_live 61 = .ok (.aload_n 0, 1) := by decide +kernel
theorem dX0_live_62 : decode cX0_live 62 = .ok (.getfield 12, 3) := by decide +kernel
theorem dX0_live_65 : decode cX0_live 65 = .ok (.iload 4, 2) := by decide +kernel
theorem dX0_live_67 : decode cX0_live 67 = .ok (.aload_n 2, 1) := by decide +kernel
theorem dX0_live_68 : decode cX0_live 68 = .ok (.getfield 53, 3) := by decide +kernel
theorem dX0_live_71 : decode cX0_live 71 = .ok (.iload_n 3, 1) := by decide +kernel
theorem dX0_live_72 : decode cX0_live 72 = .ok (.iaload, 1) := by decide +kernel
theorem dX0_live_73 : decode cX0_live 73 = .ok (.aload_n 2, 1) := by decide +kernel
theorem dX0_live_74 : decode cX0_live 74 = .ok (.getfield 56, 3) := by decide +kernel
theorem dX0_live_77 : decode cX0_live 77 = .ok (.iload_n 3, 1) := by decide +kernel
theorem dX0_live_78 : decode cX0_live 78 = .ok (.iaload, 1) := by decide +kernel
theorem dX0_live_79 : decode cX0_live 79 = .ok (.invokevirtual 59, 3) := by decide +kernel
theorem dX0_live_82 : decode cX0_live 82 = .ok (.istore 5, 2) := by decide +kernel
theorem dX0_live_84 : decode cX0_live 84 = .ok (.iload 5, 2) := by decide +kernel
theorem dX0_live_86 : decode cX0_live 86 = .ok (.ifCond .eq 15, 3) := by decide +kernel
theorem dX0_live_89 : decode cX0_live 89 = .ok (.aload_n 0, 1) := by decide +kernel
theorem dX0_live_90 : decode cX0_live 90 = .ok (.iload_n 3, 1) := by decide +kernel
theorem dX0_live_91 : decode cX0_live 91 = .ok (.putfield 35, 3) := by decide +kernel
theorem dX0_live_94 : decode cX0_live 94 = .ok (.aload_n 0, 1) := by decide +kernel
theorem dX0_live_95 : decode cX0_live 95 = .ok (.iload 5, 2) := by decide +kernel
theorem dX0_live_97 : decode cX0_live 97 = .ok (.putfield 38, 3) := by decide +kernel
theorem dX0_live_100 : decode cX0_live 100 = .ok (.return_, 1) := by decide +kernel
theorem dX0_live_101 : decode cX0_live 101 = .ok (.iload 4, 2) := by decide +kernel
theorem dX0_live_103 : decode cX0_live 103 = .ok (.bipush 46, 2) := by decide +kernel
theorem dX0_live_105 : decode cX0_live 105 = .ok (.if_icmp .ne 21, 3) := by decide +kernel
theorem dX0_live_108 : decode cX0_live 108 = .ok (.aload_n 0, 1) := by decide +kernel
theorem dX0_live_109 : decode cX0_live 109 = .ok (.getfield 12, 3) := by decide +kernel
theorem dX0_live_112 : decode cX0_live 112 = .ok (.getfield 63, 3) := by decide +kernel
theorem dX0_live_115 : decode cX0_live 115 = .ok (.iconst 0, 1) := by decide +kernel
theorem dX0_live_116 : decode cX0_live 116 = .ok (.aload_n 0, 1) := by decide +kernel
theorem dX0_live_117 : decode cX0_live 117 = .ok (.getfield 18, 3) := by decide +kernel
theorem dX0_live_120 : decode cX0_live 120 = .ok (.iconst 0, 1) := by decide +kernel
theorem dX0_live_121 : decode cX0_live 121 = .ok (.bipush 6, 2) := by decide +kernel
theorem dX0_live_123 : decode cX0_live 123 = .ok (.invokestatic 66, 3) := by decide +kernel
theorem dX0_live_126 : decode cX0_live 126 = .ok (.aload_n 0, 1) := by decide +kernel
theorem dX0_live_127 : decode cX0_live 127 = .ok (.getfield 12, 3) := by decide +kernel
theorem dX0_live_130 : decode cX0_live 130 = .ok (.iload 4, 2) := by decide +kernel
theorem dX0_live_132 : decode cX0_live 132 = .ok (.aload_n 2, 1) := by decide +kernel
theorem dX0_live_133 : decode cX0_live 133 = .ok (.getfield 53, 3) := by decide +kernel
theorem dX0_live_136 : decode cX0_live 136 = .ok (.iload_n 3, 1) := by decide +kernel
theorem dX0_live_137 : decode cX0_live 137 = .ok (.iaload, 1) := by decide +kernel
theorem dX0_live_138 : decode cX0_live 138 = .ok (.aload_n 2, 1) := by decide +kernel
theorem dX0_live_139 : decode cX0_live 139 = .ok (.getfield 56, 3) := by decide +kernel
theorem dX0_live_142 : decode cX0_live 142 = .ok (.iload_n 3, 1) := by decide +kernel
theorem dX0_live_143 : decode cX0_live 143 = .ok (.iaload, 1) := by decide +kernel
theorem dX0_live_144 : decode cX0_live 144 = .ok (.invokevirtual 72, 3) := by decide +kernel
theorem dX0_live_147 : decode cX0_live 147 = .ok (.iload 4, 2) := by decide +kernel
theorem dX0_live_149 : decode cX0_live 149 = .ok (.bipush 46, 2) := by decide +kernel
theorem dX0_live_151 : decode cX0_live 151 = .ok (.if_icmp .ne 7, 3) := by decide +kernel
theorem dX0_live_154 : decode cX0_live 154 = .ok (.aload_n 0, 1) := by decide +kernel
theorem dX0_live_155 : decode cX0_live 155 = .ok (.invokevirtual 76, 3) := by decide +kernel
theorem dX0_live_158 : decode cX0_live 158 = .ok (.iinc 3 1, 3) := by decide +kernel
theorem dX0_live_161 : decode cX0_live 161 = .ok (.goto (-122), 3) := by decide +kernel
theorem dX0_live_164 : decode cX0_live 164 = .ok (.return_, 1) := by decide +kernel
theorem dX0_tellMorning_0 : decode cX0_tellMorning 0 = .ok (.aload_n 0, 1) := by decide +kernel
theorem dX0_tellMorning_1 : decode cX0_tellMorning 1 = .ok (.getfield 31, 3) := by decide +kernel
theorem dX0_tellMorning_4 : decode cX0_tellMorning 4 = .ok (.ifCond .lt 15, 3) := by decide +kernel
theorem dX0_tellMorning_7 : decode cX0_tellMorning 7 = .ok (.aload_n 0, 1) := by decide +kernel
theorem dX0_tellMorning_8 : decode cX0_tellMorning 8 = .ok (.getfield 31, 3) := by decide +kernel
theorem dX0_tellMorning_11 : decode cX0_tellMorning 11 = .ok (.aload_n 0, 1) := by decide +kernel
theorem dX0_tellMorning_12 : decode cX0_tellMorning 12 = .ok (.getfield 24, 3) := by decide +kernel
theorem dX0_tellMorning_15 : decode cX0_tellMorning 15 = .ok (.arraylength, 1) := by decide +kernel
theorem dX0_tellMorning_16 : decode cX0_tellMorning 16 = .ok (.if_icmp .lt 4, 3) := by decide +kernel
theorem dX0_tellMorning_19 : decode cX0_tellMorning 19 = .ok (.return_, 1) := by decide +kernel
theorem dX0_tellMorning_20 : decode cX0_tellMorning 20 = .ok (.aload_n 0, 1) := by decide +kernel
theorem dX0_tellMorning_21 : decode cX0_tellMorning 21 = .ok (.getfield 44, 3) := by decide +kernel
theorem dX0_tellMorning_24 : decode cX0_tellMorning 24 = .ok (.bipush (-6), 2) := by decide +kernel
theorem dX0_tellMorning_26 : decode cX0_tellMorning 26 = .ok (.if_icmp .ne 33, 3) := by decide +kernel
theorem dX0_tellMorning_29 : decode cX0_tellMorning 29 = .ok (.aload_n 0, 1) := by decide +kernel
theorem dX0_tellMorning_30 : decode cX0_tellMorning 30 = .ok (.aload_n 0, 1) := by decide +kernel
theorem dX0_tellMorning_31 : decode cX0_tellMorning 31 = .ok (.invokevirtual 79, 3) := by decide +kernel
theorem dX0_tellMorning_34 : decode cX0_tellMorning 34 = .ok (.putfield 44, 3) := by decide +kernel
theorem dX0_tellMorning_37 : decode cX0_tellMorning 37 = .ok (.aload_n 0, 1) := by decide +kernel
theorem dX0_tellMorning_38 : decode cX0_tellMorning 38 = .ok (.aload_n 0, 1) := by decide +kernel
theorem dX0_tellMorning_39 : decode cX0_tellMorning 39 = .ok (.getfield 44, 3) := by decide +kernel
theorem dX0_tellMorning_42 : decode cX0_tellMorning 42 = .ok (.bipush (-6), 2) := by decide +kernel
theorem dX0_tellMorning_44 : decode cX0_tellMorning 44 = .ok (.if_icmp .ne 8, 3) := by decide +kernel
theorem dX0_tellMorning_47 : decode cX0_tellMorning 47 = .ok (.bipush (-6), 2) := by decide +kernel
theorem dX0_tellMorning_49 : decode cX0_tellMorning 49 = .ok (.goto 7, 3) := by decide +kernel
theorem dX0_tellMorning_52 : decode cX0_tellMorning 52 = .ok (.aload_n 0, 1) := by decide +kernel
theorem dX0_tellMorning_53 : decode cX0_tellMorning 53 = .ok (.getfield 31, 3) := by decide +kernel
theorem dX0_tellMorning_56 : decode cX0_tellMorning 56 = .ok (.putfield 41, 3) := by decide +kernel
theorem dX0_tellMorning_59 : decode cX0_tellMorning 59 = .ok (.aload_n 0, 1) := by decide +kernel
theorem dX0_tellMorning_60 : decode cX0_tellMorning 60 = .ok (.getfield 24, 3) := by decide +kernel
theorem dX0_tellMorning_63 : decode cX0_tellMorning 63 = .ok (.aload_n 0, 1) := by decide +kernel
theorem dX0_tellMorning_64 : decode cX0_tellMorning 64 = .ok (.getfield 31, 3) := by decide +kernel
theorem dX0_tellMorning_67 : decode cX0_tellMorning 67 = .ok (.aload_n 0, 1) := by decide +kernel
theorem dX0_tellMorning_68 : decode cX0_tellMorning 68 = .ok (.getfield 12, 3) := by decide +kernel
theorem dX0_tellMorning_71 : decode cX0_tellMorning 71 = .ok (.invokevirtual 83, 3) := by decide +kernel
theorem dX0_tellMorning_74 : decode cX0_tellMorning 74 = .ok (.iastore, 1) := by decide +kernel
theorem dX0_tellMorning_75 : decode cX0_tellMorning 75 = .ok (.aload_n 0, 1) := by decide +kernel
theorem dX0_tellMorning_76 : decode cX0_tellMorning 76 = .ok (.dup, 1) := by decide +kernel
theorem dX0_tellMorning_77 : decode cX0_tellMorning 77 = .ok (.getfield 31, 3) := by decide +kernel
theorem dX0_tellMorning_80 : decode cX0_tellMorning 80 = .ok (.iconst 1, 1) := by decide +kernel
theorem dX0_tellMorning_81 : decode cX0_tellMorning 81 = .ok (.iadd, 1) := by decide +kernel
theorem dX0_tellMorning_82 : decode cX0_tellMorning 82 = .ok (.putfield 31, 3) := by decide +kernel
theorem dX0_tellMorning_85 : decode cX0_tellMorning 85 = .ok (.return_, 1) := by decide +kernel
theorem dX0_leastPass_0 : decode cX0_leastPass 0 = .ok (.iconst 0, 1) := by decide +kernel
theorem dX0_leastPass_1 : decode cX0_leastPass 1 = .ok (.istore_n 1, 1) := by decide +kernel
theorem dX0_leastPass_2 : decode cX0_leastPass 2 = .ok (.iload_n 1, 1) := by decide +kernel
theorem dX0_leastPass_3 : decode cX0_leastPass 3 = .ok (.bipush 6, 2) := by decide +kernel
theorem dX0_leastPass_5 : decode cX0_leastPass 5 = .ok (.if_icmp .ge 63, 3) := by decide +kernel
theorem dX0_leastPass_8 : decode cX0_leastPass 8 = .ok (.iload_n 1, 1) := by decide +kernel
theorem dX0_leastPass_9 : decode cX0_leastPass 9 = .ok (.iconst 1, 1) := by decide +kernel
theorem dX0_leastPass_10 : decode cX0_leastPass 10 = .ok (.iadd, 1) := by decide +kernel
theorem dX0_leastPass_11 : decode cX0_leastPass 11 = .ok (.istore_n 2, 1) := by decide +kernel
theorem dX0_leastPass_12 : decode cX0_leastPass 12 = .ok (.iload_n 2, 1) := by decide +kernel
theorem dX0_leastPass_13 : decode cX0_leastPass 13 = .ok (.bipush 6, 2) := by decide +kernel
theorem dX0_leastPass_15 : decode cX0_leastPass 15 = .ok (.if_icmp .ge 47, 3) := by decide +kernel
theorem dX0_leastPass_18 : decode cX0_leastPass 18 = .ok (.aload_n 0, 1) := by decide +kernel
theorem dX0_leastPass_19 : decode cX0_leastPass 19 = .ok (.getfield 12, 3) := by decide +kernel
theorem dX0_leastPass_22 : decode cX0_leastPass 22 = .ok (.iload_n 1, 1) := by decide +kernel
theorem dX0_leastPass_23 : decode cX0_leastPass 23 = .ok (.invokevirtual 86, 3) := by decide +kernel
theorem dX0_leastPass_26 : decode cX0_leastPass 26 = .ok (.ifCond .eq 30, 3) := by decide +kernel
theorem dX0_leastPass_29 : decode cX0_leastPass 29 = .ok (.aload_n 0, 1) := by decide +kernel
theorem dX0_leastPass_30 : decode cX0_leastPass 30 = .ok (.getfield 12, 3) := by decide +kernel
theorem dX0_leastPass_33 : decode cX0_leastPass 33 = .ok (.iload_n 2, 1) := by decide +kernel
theorem dX0_leastPass_34 : decode cX0_leastPass 34 = .ok (.invokevirtual 86, 3) := by decide +kernel
theorem dX0_leastPass_37 : decode cX0_leastPass 37 = .ok (.ifCond .eq 19, 3) := by decide +kernel
theorem dX0_leastPass_40 : decode cX0_leastPass 40 = .ok (.aload_n 0, 1) := by decide +kernel
theorem dX0_leastPass_41 : decode cX0_leastPass 41 = .ok (.iload_n 1, 1) := by decide +kernel
theorem dX0_leastPass_42 : decode cX0_leastPass 42 = .ok (.iload_n 2, 1) := by decide +kernel
theorem dX0_leastPass_43 : decode cX0_leastPass 43 = .ok (.invokevirtual 90, 3) := by decide +kernel
theorem dX0_leastPass_46 : decode cX0_leastPass 46 = .ok (.ifCond .eq 10, 3) := by decide +kernel
theorem dX0_leastPass_49 : decode cX0_leastPass 49 = .ok (.bipush 10, 2) := by decide +kernel
theorem dX0_leastPass_51 : decode cX0_leastPass 51 = .ok (.iload_n 1, 1) := by decide +kernel
theorem dX0_leastPass_52 : decode cX0_leastPass 52 = .ok (.imul, 1) := by decide +kernel
theorem dX0_leastPass_53 : decode cX0_leastPass 53 = .ok (.iload_n 2, 1) := by decide +kernel
theorem dX0_leastPass_54 : decode cX0_leastPass 54 = .ok (.iadd, 1) := by decide +kernel
theorem dX0_leastPass_55 : decode cX0_leastPass 55 = .ok (.ireturn, 1) := by decide +kernel
theorem dX0_leastPass_56 : decode cX0_leastPass 56 = .ok (.iinc 2 1, 3) := by decide +kernel
theorem dX0_leastPass_59 : decode cX0_leastPass 59 = .ok (.goto (-47), 3) := by decide +kernel
theorem dX0_leastPass_62 : decode cX0_leastPass 62 = .ok (.iinc 1 1, 3) := by decide +kernel
theorem dX0_leastPass_65 : decode cX0_leastPass 65 = .ok (.goto (-63), 3) := by decide +kernel
theorem dX0_leastPass_68 : decode cX0_leastPass 68 = .ok (.bipush (-6), 2) := by decide +kernel
theorem dX0_leastPass_70 : decode cX0_leastPass 70 = .ok (.ireturn, 1) := by decide +kernel
theorem dX0_hasPassed_0 : decode cX0_hasPassed 0 = .ok (.aload_n 0, 1) := by decide +kernel
theorem dX0_hasPassed_1 : decode cX0_hasPassed 1 = .ok (.getfield 18, 3) := by decide +kernel
theorem dX0_hasPassed_4 : decode cX0_hasPassed 4 = .ok (.iload_n 1, 1) := by decide +kernel
theorem dX0_hasPassed_5 : decode cX0_hasPassed 5 = .ok (.iaload, 1) := by decide +kernel
theorem dX0_hasPassed_6 : decode cX0_hasPassed 6 = .ok (.aload_n 0, 1) := by decide +kernel
theorem dX0_hasPassed_7 : decode cX0_hasPassed 7 = .ok (.getfield 18, 3) := by decide +kernel
theorem dX0_hasPassed_10 : decode cX0_hasPassed 10 = .ok (.iload_n 2, 1) := by decide +kernel
theorem dX0_hasPassed_11 : decode cX0_hasPassed 11 = .ok (.iaload, 1) := by decide +kernel
theorem dX0_hasPassed_12 : decode cX0_hasPassed 12 = .ok (.invokestatic 94, 3) := by decide +kernel
theorem dX0_hasPassed_15 : decode cX0_hasPassed 15 = .ok (.istore_n 3, 1) := by decide +kernel
theorem dX0_hasPassed_16 : decode cX0_hasPassed 16 = .ok (.aload_n 0, 1) := by decide +kernel
theorem dX0_hasPassed_17 : decode cX0_hasPassed 17 = .ok (.getfield 12, 3) := by decide +kernel
theorem dX0_hasPassed_20 : decode cX0_hasPassed 20 = .ok (.getfield 63, 3) := by decide +kernel
theorem dX0_hasPassed_23 : decode cX0_hasPassed 23 = .ok (.iload_n 1, 1) := by decide +kernel
theorem dX0_hasPassed_24 : decode cX0_hasPassed 24 = .ok (.iaload, 1) := by decide +kernel
theorem dX0_hasPassed_25 : decode cX0_hasPassed 25 = .ok (.aload_n 0, 1) := by decide +kernel
theorem dX0_hasPassed_26 : decode cX0_hasPassed 26 = .ok (.getfield 12, 3) := by decide +kernel
theorem dX0_hasPassed_29 : decode cX0_hasPassed 29 = .ok (.getfield 63, 3) := by decide +kernel
theorem dX0_hasPassed_32 : decode cX0_hasPassed 32 = .ok (.iload_n 2, 1) := by decide +kernel
theorem dX0_hasPassed_33 : decode cX0_hasPassed 33 = .ok (.iaload, 1) := by decide +kernel
theorem dX0_hasPassed_34 : decode cX0_hasPassed 34 = .ok (.invokestatic 94, 3) := by decide +kernel
theorem dX0_hasPassed_37 : decode cX0_hasPassed 37 = .ok (.istore 4, 2) := by decide +kernel
theorem dX0_hasPassed_39 : decode cX0_hasPassed 39 = .ok (.iload_n 3, 1) := by decide +kernel
theorem dX0_hasPassed_40 : decode cX0_hasPassed 40 = .ok (.ifCond .ge 8, 3) := by decide +kernel
theorem dX0_hasPassed_43 : decode cX0_hasPassed 43 = .ok (.iload 4, 2) := by decide +kernel
theorem dX0_hasPassed_45 : decode cX0_hasPassed 45 = .ok (.ifCond .gt 12, 3) := by decide +kernel
theorem dX0_hasPassed_48 : decode cX0_hasPassed 48 = .ok (.iload_n 3, 1) := by decide +kernel
theorem dX0_hasPassed_49 : decode cX0_hasPassed 49 = .ok (.ifCond .le 12, 3) := by decide +kernel
theorem dX0_hasPassed_52 : decode cX0_hasPassed 52 = .ok (.iload 4, 2) := by decide +kernel
theorem dX0_hasPassed_54 : decode cX0_hasPassed 54 = .ok (.ifCond .ge 7, 3) := by decide +kernel
theorem dX0_hasPassed_57 : decode cX0_hasPassed 57 = .ok (.iconst 1, 1) := by decide +kernel
theorem dX0_hasPassed_58 : decode cX0_hasPassed 58 = .ok (.goto 4, 3) := by decide +kernel
theorem dX0_hasPassed_61 : decode cX0_hasPassed 61 = .ok (.iconst 0, 1) := by decide +kernel
theorem dX0_hasPassed_62 : decode cX0_hasPassed 62 = .ok (.ireturn, 1) := by decide +kernel
theorem dX4_init_0 : decode cX4_init 0 = .ok (.aload_n 0, 1) := by decide +kernel
theorem dX4_init_1 : decode cX4_init 1 = .ok (.invokespecial 3, 3) := by decide +kernel
theorem dX4_init_4 : decode cX4_init 4 = .ok (.aload_n 0, 1) := by decide +kernel
theorem dX4_init_5 : decode cX4_init 5 = .ok (.bipush 60, 2) := by decide +kernel
theorem dX4_init_7 : decode cX4_init 7 = .ok (.newarray .int, 2) := by decide +kernel
theorem dX4_init_9 : decode cX4_init 9 = .ok (.putfield 11, 3) := by decide +kernel
theorem dX4_init_12 : decode cX4_init 12 = .ok (.aload_n 0, 1) := by decide +kernel
theorem dX4_init_13 : decode cX4_init 13 = .ok (.bipush 60, 2) := by decide +kernel
theorem dX4_init_15 : decode cX4_init 15 = .ok (.newarray .int, 2) := by decide +kernel
theorem dX4_init_17 : decode cX4_init 17 = .ok (.putfield 15, 3) := by decide +kernel
theorem dX4_init_20 : decode cX4_init 20 = .ok (.aload_n 0, 1) := by decide +kernel
theorem dX4_init_21 : decode cX4_init 21 = .ok (.bipush 60, 2) := by decide +kernel
theorem dX4_init_23 : decode cX4_init 23 = .ok (.newarray .int, 2) := by decide +kernel
theorem dX4_init_25 : decode cX4_init 25 = .ok (.putfield 18, 3) := by decide +kernel
theorem dX4_init_28 : decode cX4_init 28 = .ok (.aload_n 0, 1) := by decide +kernel
theorem dX4_init_29 : decode cX4_init 29 = .ok (.bipush 60, 2) := by decide +kernel
theorem dX4_init_31 : decode cX4_init 31 = .ok (.newarray .int, 2) := by decide +kernel
theorem dX4_init_33 : decode cX4_init 33 = .ok (.putfield 21, 3) := by decide +kernel
theorem dX4_init_36 : decode cX4_init 36 = .ok (.return_, 1) := by decide +kernel
theorem dX4_add_0 : decode cX4_add 0 = .ok (.aload_n 0, 1) := by decide +kernel
theorem dX4_add_1 : decode cX4_add 1 = .ok (.getfield 24, 3) := by decide +kernel
theorem dX4_add_4 : decode cX4_add 4 = .ok (.ifCond .lt 12, 3) := by decide +kernel
theorem dX4_add_7 : decode cX4_add 7 = .ok (.aload_n 0, 1) := by decide +kernel
theorem dX4_add_8 : decode cX4_add 8 = .ok (.getfield 24, 3) := by decide +kernel
theorem dX4_add_11 : decode cX4_add 11 = .ok (.bipush 60, 2) := by decide +kernel
theorem dX4_add_13 : decode cX4_add 13 = .ok (.if_icmp .lt 5, 3) := by decide +kernel
theorem dX4_add_16 : decode cX4_add 16 = .ok (.iconst 0, 1) := by decide +kernel
theorem dX4_add_17 : decode cX4_add 17 = .ok (.ireturn, 1) := by decide +kernel
theorem dX4_add_18 : decode cX4_add 18 = .ok (.aload_n 0, 1) := by decide +kernel
theorem dX4_add_19 : decode cX4_add 19 = .ok (.getfield 11, 3) := by decide +kernel
theorem dX4_add_22 : decode cX4_add 22 = .ok (.aload_n 0, 1) := by decide +kernel
theorem dX4_add_23 : decode cX4_add 23 = .ok (.getfield 24, 3) := by decide +kernel
theorem dX4_add_26 : decode cX4_add 26 = .ok (.iload_n 1, 1) := by decide +kernel
theorem dX4_add_27 : decode cX4_add 27 = .ok (.iastore, 1) := by decide +kernel
theorem dX4_add_28 : decode cX4_add 28 = .ok (.aload_n 0, 1) := by decide +kernel
theorem dX4_add_29 : decode cX4_add 29 = .ok (.dup, 1) := by decide +kernel
theorem dX4_add_30 : decode cX4_add 30 = .ok (.getfield 24, 3) := by decide +kernel
theorem dX4_add_33 : decode cX4_add 33 = .ok (.iconst 1, 1) := by decide +kernel
theorem dX4_add_34 : decode cX4_add 34 = .ok (.iadd, 1) := by decide +kernel
theorem dX4_add_35 : decode cX4_add 35 = .ok (.putfield 24, 3) := by decide +kernel
theorem dX4_add_38 : decode cX4_add 38 = .ok (.iconst 1, 1) := by decide +kernel
theorem dX4_add_39 : decode cX4_add 39 = .ok (.ireturn, 1) := by decide +kernel
theorem dX4_read_0 : decode cX4_read 0 = .ok (.aload_n 0, 1) := by decide +kernel
theorem dX4_read_1 : decode cX4_read 1 = .ok (.iconst 0, 1) := by decide +kernel
theorem dX4_read_2 : decode cX4_read 2 = .ok (.putfield 28, 3) := by decide +kernel
theorem dX4_read_5 : decode cX4_read 5 = .ok (.iconst 0, 1) := by decide +kernel
theorem dX4_read_6 : decode cX4_read 6 = .ok (.istore_n 1, 1) := by decide +kernel
theorem dX4_read_7 : decode cX4_read 7 = .ok (.iconst 0, 1) := by decide +kernel
theorem dX4_read_8 : decode cX4_read 8 = .ok (.istore_n 2, 1) := by decide +kernel
theorem dX4_read_9 : decode cX4_read 9 = .ok (.iconst 0, 1) := by decide +kernel
theorem dX4_read_10 : decode cX4_read 10 = .ok (.istore_n 3, 1) := by decide +kernel
theorem dX4_read_11 : decode cX4_read 11 = .ok (.iload_n 3, 1) := by decide +kernel
theorem dX4_read_12 : decode cX4_read 12 = .ok (.aload_n 0, 1) := by decide +kernel
theorem dX4_read_13 : decode cX4_read 13 = .ok (.getfield 24, 3) := by decide +kernel
theorem dX4_read_16 : decode cX4_read 16 = .ok (.if_icmp .ge 163, 3) := by decide +kernel
theorem dX4_read_19 : decode cX4_read 19 = .ok (.iload_n 3, 1) := by decide +kernel
theorem dX4_read_20 : decode cX4_read 20 = .ok (.bipush 60, 2) := by decide +kernel
theorem dX4_read_22 : decode cX4_read 22 = .ok (.if_icmp .ge 157, 3) := by decide +kernel
theorem dX4_read_25 : decode cX4_read 25 = .ok (.aload_n 0, 1) := by decide +kernel
theorem dX4_read_26 : decode cX4_read 26 = .ok (.getfield 11, 3) := by decide +kernel
theorem dX4_read_29 : decode cX4_read 29 = .ok (.iload_n 3, 1) := by decide +kernel
theorem dX4_read_30 : decode cX4_read 30 = .ok (.iaload, 1) := by decide +kernel
theorem dX4_read_31 : decode cX4_read 31 = .ok (.istore 4, 2) := by decide +kernel
theorem dX4_read_33 : decode cX4_read 33 = .ok (.iload_n 1, 1) := by decide +kernel
theorem dX4_read_34 : decode cX4_read 34 = .ok (.ifCond .ne 22, 3) := by decide +kernel
theorem dX4_read_37 : decode cX4_read 37 = .ok (.iload 4, 2) := by decide +kernel
theorem dX4_read_39 : decode cX4_read 39 = .ok (.invokestatic 31, 3) := by decide +kernel
theorem dX4_read_42 : decode cX4_read 42 = .ok (.ifCond .eq 14, 3) := by decide +kernel
theorem dX4_read_45 : decode cX4_read 45 = .ok (.iload 4, 2) := by decide +kernel
theorem dX4_read_47 : decode cX4_read 47 = .ok (.bipush 65, 2) := by decide +kernel
theorem dX4_read_49 : decode cX4_read 49 = .ok (.isub, 1) := by decide +kernel
theorem dX4_read_50 : decode cX4_read 50 = .ok (.istore_n 2, 1) := by decide +kernel
theorem dX4_read_51 : decode cX4_read 51 = .ok (.iconst 1, 1) := by decide +kernel
theorem dX4_read_52 : decode cX4_read 52 = .ok (.istore_n 1, 1) := by decide +kernel
theorem dX4_read_53 : decode cX4_read 53 = .ok (.goto 120, 3) := by decide +kernel
theorem dX4_read_56 : decode cX4_read 56 = .ok (.iload_n 1, 1) := by decide +kernel
theorem dX4_read_57 : decode cX4_read 57 = .ok (.ifCond .ne 28, 3) := by decide +kernel
theorem dX4_read_60 : decode cX4_read 60 = .ok (.iload 4, 2) := by decide +kernel
theorem dX4_read_62 : decode cX4_read 62 = .ok (.bipush 33, 2) := by decide +kernel
theorem dX4_read_64 : decode cX4_read 64 = .ok (.if_icmp .eq 10, 3) := by decide +kernel
theorem dX4_read_67 : decode cX4_read 67 = .ok (.iload 4, 2) := by decide +kernel
theorem dX4_read_69 : decode cX4_read 69 = .ok (.bipush 46, 2) := by decide +kernel
theorem dX4_read_71 : decode cX4_read 71 = .ok (.if_icmp .ne 14, 3) := by decide +kernel
theorem dX4_read_74 : decode cX4_read 74 = .ok (.aload_n 0, 1) := by decide +kernel
theorem dX4_read_75 : decode cX4_read 75 = .ok (.iload 4, 2) := by decide +kernel
theorem dX4_read_77 : decode cX4_read 77 = .ok (.iconst 0, 1) := by decide +kernel
theorem dX4_read_78 : decode cX4_read 78 = .ok (.iconst 0, 1) := by decide +kernel
theorem dX4_read_79 : decode cX4_read 79 = .ok (.invokevirtual 35, 3) := by decide +kernel
theorem dX4_read_82 : decode cX4_read 82 = .ok (.goto 91, 3) := by decide +kernel
theorem dX4_read_85 : decode cX4_read 85 = .ok (.iload_n 1, 1) := by decide +kernel
theorem dX4_read_86 : decode cX4_read 86 = .ok (.iconst 1, 1) := by decide +kernel
theorem dX4_read_87 : decode cX4_read 87 = .ok (.if_icmp .ne 37, 3) := by decide +kernel
theorem dX4_read_90 : decode cX4_read 90 = .ok (.iload 4, 2) := by decide +kernel
theorem dX4_read_92 : decode cX4_read 92 = .ok (.bipush 98, 2) := by decide +kernel
theorem dX4_read_94 : decode cX4_read 94 = .ok (.if_icmp .eq 17, 3) := by decide +kernel
theorem dX4_read_97 : decode cX4_read 97 = .ok (.iload 4, 2) := by decide +kernel
theorem dX4_read_99 : decode cX4_read 99 = .ok (.bipush 104, 2) := by decide +kernel
theorem dX4_read_101 : decode cX4_read 101 = .ok (.if_icmp .eq 10, 3) := by decide +kernel
theorem dX4_read_104 : decode cX4_read 104 = .ok (.iload 4, 2) := by decide +kernel
theorem dX4_read_106 : decode cX4_read 106 = .ok (.bipush 120, 2) := by decide +kernel
theorem dX4_read_108 : decode cX4_read 108 = .ok (.if_icmp .ne 16, 3) := by decide +kernel
theorem dX4_read_111 : decode cX4_read 111 = .ok (.aload_n 0, 1) := by decide +kernel
theorem dX4_read_112 : decode cX4_read 112 = .ok (.iload 4, 2) := by decide +kernel
theorem dX4_read_114 : decode cX4_read 114 = .ok (.iload_n 2, 1) := by decide +kernel
theorem dX4_read_115 : decode cX4_read 115 = .ok (.iload_n 2, 1) := by decide +kernel
theorem dX4_read_116 : decode cX4_read 116 = .ok (.invokevirtual 35, 3) := by decide +kernel
theorem dX4_read_119 : decode cX4_read 119 = .ok (.iconst 0, 1) := by decide +kernel
theorem dX4_read_120 : decode cX4_read 120 = .ok (.istore_n 1, 1) := by decide +kernel
theorem dX4_read_121 : decode cX4_read 121 = .ok (.goto 52, 3) := by decide +kernel
theorem dX4_read_124 : decode cX4_read 124 = .ok (.iload_n 1, 1) := by decide +kernel
theorem dX4_read_125 : decode cX4_read 125 = .ok (.iconst 1, 1) := by decide +kernel
theorem dX4_read_126 : decode cX4_read 126 = .ok (.if_icmp .ne 15, 3) := by decide +kernel
theorem dX4_read_129 : decode cX4_read 129 = .ok (.iload 4, 2) := by decide +kernel
theorem dX4_read_131 : decode cX4_read 131 = .ok (.bipush 62, 2) := by decide +kernel
theorem dX4_read_133 : decode cX4_read 133 = .ok (.if_icmp .ne 8, 3) := by decide +kernel
theorem dX4_read_136 : decode cX4_read 136 = .ok (.iconst 2, 1) := by decide +kernel
theorem dX4_read_137 : decode cX4_read 137 = .ok (.istore_n 1, 1) := by decide +kernel
theorem dX4_read_138 : decode cX4_read 138 = .ok (.goto 35, 3) := by decide +kernel
theorem dX4_read_141 : decode cX4_read 141 = .ok (.iload_n 1, 1) := by decide +kernel
theorem dX4_read_142 : decode cX4_read 142 = .ok (.iconst 2, 1) := by decide +kernel
theorem dX4_read_143 : decode cX4_read 143 = .ok (.if_icmp .ne 28, 3) := by decide +kernel
theorem dX4_read_146 : decode cX4_read 146 = .ok (.iload 4, 2) := by decide +kernel
theorem dX4_read_148 : decode cX4_read 148 = .ok (.invokestatic 31, 3) := by decide +kernel
theorem dX4_read_151 : decode cX4_read 151 = .ok (.ifCond .eq 20, 3) := by decide +kernel
theorem dX4_read_154 : decode cX4_read 154 = .ok (.aload_n 0, 1) := by decide +kernel
theorem dX4_read_155 : decode cX4_read 155 = .ok (.bipush 62, 2) := by decide +kernel
theorem dX4_read_157 : decode cX4_read 157 = .ok (.iload_n 2, 1) := by decide +kernel
theorem dX4_read_158 : decode cX4_read 158 = .ok (.iload 4, 2) := by decide +kernel
theorem dX4_read_160 : decode cX4_read 160 = .ok (.bipush 65, 2) := by decide +kernel
theorem dX4_read_162 : decode cX4_read 162 = .ok (.isub, 1) := by decide +kernel
theorem dX4_read_163 : decode cX4_read 163 = .ok (.invokevirtual 35, 3) := by decide +kernel
theorem dX4_read_166 : decode cX4_read 166 = .ok (.iconst 0, 1) := by decide +kernel
theorem dX4_read_167 : decode cX4_read 167 = .ok (.istore_n 1, 1) := by decide +kernel
theorem dX4_read_168 : decode cX4_read 168 = .ok (.goto 5, 3) := by decide +kernel
theorem dX4_read_171 : decode cX4_read 171 = .ok (.iload_n 3, 1) := by decide +kernel
theorem dX4_read_172 : decode cX4_read 172 = .ok (.ireturn, 1) := by decide +kernel
theorem dX4_read_173 : decode cX4_read 173 = .ok (.iinc 3 1, 3) := by decide +kernel
theorem dX4_read_176 : decode cX4_read 176 = .ok (.goto (-165), 3) := by decide +kernel
theorem dX4_read_179 : decode cX4_read 179 = .ok (.iload_n 1, 1) := by decide +kernel
theorem dX4_read_180 : decode cX4_read 180 = .ok (.ifCond .ne 8, 3) := by decide +kernel
theorem dX4_read_183 : decode cX4_read 183 = .ok (.bipush (-6), 2) := by decide +kernel
theorem dX4_read_185 : decode cX4_read 185 = .ok (.goto 7, 3) := by decide +kernel
theorem dX4_read_188 : decode cX4_read 188 = .ok (.aload_n 0, 1) := by decide +kernel
theorem dX4_read_189 : decode cX4_read 189 = .ok (.getfield 24, 3) := by decide +kernel
theorem dX4_read_192 : decode cX4_read 192 = .ok (.ireturn, 1) := by decide +kernel
theorem dX4_isLetter_0 : decode cX4_isLetter 0 = .ok (.iload_n 0, 1) := by decide +kernel
theorem dX4_isLetter_1 : decode cX4_isLetter 1 = .ok (.bipush 65, 2) := by decide +kernel
theorem dX4_isLetter_3 : decode cX4_isLetter 3 = .ok (.if_icmp .lt 13, 3) := by decide +kernel
theorem dX4_isLetter_6 : decode cX4_isLetter 6 = .ok (.iload_n 0, 1) := by decide +kernel
theorem dX4_isLetter_7 : decode cX4_isLetter 7 = .ok (.bipush 71, 2) := by decide +kernel
theorem dX4_isLetter_9 : decode cX4_isLetter 9 = .ok (.if_icmp .ge 7, 3) := by decide +kernel
theorem dX4_isLetter_12 : decode cX4_isLetter 12 = .ok (.iconst 1, 1) := by decide +kernel
theorem dX4_isLetter_13 : decode cX4_isLetter 13 = .ok (.goto 4, 3) := by decide +kernel
theorem dX4_isLetter_16 : decode cX4_isLetter 16 = .ok (.iconst 0, 1) := by decide +kernel
theorem dX4_isLetter_17 : decode cX4_isLetter 17 = .ok (.ireturn, 1) := by decide +kernel
theorem dX4_addAct_0 : decode cX4_addAct 0 = .ok (.aload_n 0, 1) := by decide +kernel
theorem dX4_addAct_1 : decode cX4_addAct 1 = .ok (.getfield 28, 3) := by decide +kernel
theorem dX4_addAct_4 : decode cX4_addAct 4 = .ok (.ifCond .lt 52, 3) := by decide +kernel
theorem dX4_addAct_7 : decode cX4_addAct 7 = .ok (.aload_n 0, 1) := by decide +kernel
theorem dX4_addAct_8 : decode cX4_addAct 8 = .ok (.getfield 28, 3) := by decide +kernel
theorem dX4_addAct_11 : decode cX4_addAct 11 = .ok (.bipush 60, 2) := by decide +kernel
theorem dX4_addAct_13 : decode cX4_addAct 13 = .ok (.if_icmp .ge 43, 3) := by decide +kernel
theorem dX4_addAct_16 : decode cX4_addAct 16 = .ok (.aload_n 0, 1) := by decide +kernel
theorem dX4_addAct_17 : decode cX4_addAct 17 = .ok (.getfield 15, 3) := by decide +kernel
theorem dX4_addAct_20 : decode cX4_addAct 20 = .ok (.aload_n 0, 1) := by decide +kernel
theorem dX4_addAct_21 : decode cX4_addAct 21 = .ok (.getfield 28, 3) := by decide +kernel
theorem dX4_addAct_24 : decode cX4_addAct 24 = .ok (.iload_n 1, 1) := by decide +kernel
theorem dX4_addAct_25 : decode cX4_addAct 25 = .ok (.iastore, 1) := by decide +kernel
theorem dX4_addAct_26 : decode cX4_addAct 26 = .ok (.aload_n 0, 1) := by decide +kernel
theorem dX4_addAct_27 : decode cX4_addAct 27 = .ok (.getfield 18, 3) := by decide +kernel
theorem dX4_addAct_30 : decode cX4_addAct 30 = .ok (.aload_n 0, 1) := by decide +kernel
theorem dX4_addAct_31 : decode cX4_addAct 31 = .ok (.getfield 28, 3) := by decide +kernel
theorem dX4_addAct_34 : decode cX4_addAct 34 = .ok (.iload_n 2, 1) := by decide +kernel
theorem dX4_addAct_35 : decode cX4_addAct 35 = .ok (.iastore, 1) := by decide +kernel
theorem dX4_addAct_36 : decode cX4_addAct 36 = .ok (.aload_n 0, 1) := by decide +kernel
theorem dX4_addAct_37 : decode cX4_addAct 37 = .ok (.getfield 21, 3) := by decide +kernel
theorem dX4_addAct_40 : decode cX4_addAct 40 = .ok (.aload_n 0, 1) := by decide +kernel
theorem dX4_addAct_41 : decode cX4_addAct 41 = .ok (.getfield 28, 3) := by decide +kernel
theorem dX4_addAct_44 : decode cX4_addAct 44 = .ok (.iload_n 3, 1) := by decide +kernel
theorem dX4_addAct_45 : decode cX4_addAct 45 = .ok (.iastore, 1) := by decide +kernel
theorem dX4_addAct_46 : decode cX4_addAct 46 = .ok (.aload_n 0, 1) := by decide +kernel
theorem dX4_addAct_47 : decode cX4_addAct 47 = .ok (.dup, 1) := by decide +kernel
theorem dX4_addAct_48 : decode cX4_addAct 48 = .ok (.getfield 28, 3) := by decide +kernel
theorem dX4_addAct_51 : decode cX4_addAct 51 = .ok (.iconst 1, 1) := by decide +kernel
theorem dX4_addAct_52 : decode cX4_addAct 52 = .ok (.iadd, 1) := by decide +kernel
theorem dX4_addAct_53 : decode cX4_addAct 53 = .ok (.putfield 28, 3) := by decide +kernel
theorem dX4_addAct_56 : decode cX4_addAct 56 = .ok (.return_, 1) := by decide +kernel
theorem b_X0_live_0 {l : Launch} {z d : Nat} {X : jX} {M : Nat → Int → Int} {Q : Option jV → jM → Prop}    (k1 : J l z X d mX1_takeOver (0, 0) 0 [jR 12, jR 1] [] (jG, M) (fun r μ => J l z X (d + 1) mX0_live (0, 0) 8 [jR 11, jR 1, jR 6, jN, jN, jN] (r.toList ++ []) μ Q)) : J l z X (d + 1) mX0_live (0, 0) 0 [jR 11, jR 1, jR 6, jN, jN, jN] [] (jG, M) Q :=
  (J_aload_n dX0_live_0 rfl (J_getR (k := 0) jcl_X0 dX0_live_1 wf_X0_12 g_11 (Nat.le_of_ble_eq_true rfl) rfl rfl (J_aload_n dX0_live_4 rfl (J_callV (a1 := (0, 0)) (a2 := (0, 0)) (mm' := mX1_takeOver) (S := []) [jR 1] md_X1_takeOver im_X1_takeOver se_X1_takeOver dX0_live_5 wm_X0_27 jcl_X1.1 rfl g_12 rfl rfl (Nat.le_of_ble_eq_true rfl) (Nat.le_of_ble_eq_true rfl) rfl k1))))
theorem b_X0_live_8 {l : Launch} {z d : Nat} {X : jX} {M : Nat → Int → Int} {Q : Option jV → jM → Prop}    (k1 : J l z X d mX0_live (0, 0) 39 [jR 11, jR 1, jR 6, jI 0, jN, jN] [] (jG, (jupd (jupd (jupd (jupd (jupd M 11 3 0) 11 4 (-6)) 11 5 (-6)) 11 6 (-6)) 11 7 (-6))) Q) : J l z X d mX0_live (0, 0) 8 [jR 11, jR 1, jR 6, jN, jN, jN] [] (jG, M) Q :=
  (J_aload_n dX0_live_8 rfl (J_iconst dX0_live_9 jc_0 (J_putI (k := 3) (kz := 3) jcl_X0 dX0_live_10 wf_X0_31 g_11 (Nat.le_of_ble_eq_true rfl) rfl rfl rfl (J_aload_n dX0_live_13 rfl (J_bipush dX0_live_14 jc_m6 jb_m6 (J_putI (k := 4) (kz := 4) jcl_X0 dX0_live_16 wf_X0_35 g_11 (Nat.le_of_ble_eq_true rfl) rfl rfl rfl (J_aload_n dX0_live_19 rfl (J_bipush dX0_live_20 jc_m6 jb_m6 (J_putI (k := 5) (kz := 5) jcl_X0 dX0_live_22 wf_X0_38 g_11 (Nat.le_of_ble_eq_true rfl) rfl rfl rfl (J_aload_n dX0_live_25 rfl (J_bipush dX0_live_26 jc_m6 jb_m6 (J_putI (k := 6) (kz := 6) jcl_X0 dX0_live_28 wf_X0_41 g_11 (Nat.le_of_ble_eq_true rfl) rfl rfl rfl (J_aload_n dX0_live_31 rfl (J_bipush dX0_live_32 jc_m6 jb_m6 (J_putI (k := 7) (kz := 7) jcl_X0 dX0_live_34 wf_X0_44 g_11 (Nat.le_of_ble_eq_true rfl) rfl rfl rfl (J_iconst dX0_live_37 jc_0 (J_istore_n dX0_live_38 (Nat.le_of_ble_eq_true rfl) k1)))))))))))))))))
theorem b_X0_live_39 {l : Launch} {z d : Nat} {X : jX} {M : Nat → Int → Int} {Q : Option jV → jM → Prop} {x3 : Int}  (s1 : x3 < (M 6 5) → x3 < 60 → 0 ≤ x3) (s2 : x3 < (M 6 5) → x3 < 60 → x3 < 60) (k1 : (M 6 5) ≤ x3 → Q none (jG, M)) (k2 : x3 < (M 6 5) → 60 ≤ x3 → Q none (jG, M)) (k3 : x3 < (M 6 5) → x3 < 60 → J l z X d mX1_whyNot (0, 0) 0 [jR 12, jI (M 8 x3), jI (M 9 x3), jI (M 10 x3), jN] [] (jG, M) (fun r μ => J l z X (d + 1) mX0_live (0, 0) 82 [jR 11, jR 1, jR 6, jI x3, jI (M 8 x3), jN] (r.toList ++ []) μ Q)) : J l z X (d + 1) mX0_live (0, 0) 39 [jR 11, jR 1, jR 6, jI x3, jN, jN] [] (jG, M) Q :=
  (J_iload_n dX0_live_39 rfl (J_aload_n dX0_live_40 rfl (J_getIN (k := 5) (kz := 5) jcl_X4 dX0_live_41 wf_X0_47 g_6 (Nat.le_of_ble_eq_true rfl) rfl rfl (J_icmp_ge dX0_live_44 (tgt := 164) (by decide) (fun c1 => (J_vret dX0_live_164 rfl (k1 c1))) (fun c1 => (J_iload_n dX0_live_47 rfl (J_bipush dX0_live_48 jc_60 jb_60 (J_icmp_ge dX0_live_50 (tgt := 164) (by decide) (fun c2 => (J_vret dX0_live_164 rfl (k2 c1 c2))) (fun c2 => (J_aload_n dX0_live_53 rfl (J_getRN (k := 1) jcl_X4 dX0_live_54 wf_X0_50 g_6 (Nat.le_of_ble_eq_true rfl) rfl rfl (J_iload_n dX0_live_57 rfl (J_iald dX0_live_58 g_8 (s1 c1 c2) (s2 c1 c2) (J_istore dX0_live_59 (Nat.le_of_ble_eq_true rfl) (J_aload_n dX0_live_61 rfl (J_getR (k := 0) jcl_X0 dX0_live_62 wf_X0_12 g_11 (Nat.le_of_ble_eq_true rfl) rfl rfl (J_iload dX0_live_65 rfl (J_aload_n dX0_live_67 rfl (J_getRN (k := 2) jcl_X4 dX0_live_68 wf_X0_53 g_6 (Nat.le_of_ble_eq_true rfl) rfl rfl (J_iload_n dX0_live_71 rfl (J_iald dX0_live_72 g_9 (s1 c1 c2) (s2 c1 c2) (J_aload_n dX0_live_73 rfl (J_getRN (k := 3) jcl_X4 dX0_live_74 wf_X0_56 g_6 (Nat.le_of_ble_eq_true rfl) rfl rfl (J_iload_n dX0_live_77 rfl (J_iald dX0_live_78 g_10 (s1 c1 c2) (s2 c1 c2) (J_callV (a1 := (0, 0)) (a2 := (0, 0)) (mm' := mX1_whyNot) (S := []) [jI (M 8 x3), jI (M 9 x3), jI (M 10 x3)] md_X1_whyNot im_X1_whyNot se_X1_whyNot dX0_live_79 wm_X0_59 jcl_X1.1 rfl g_12 rfl rfl (Nat.le_of_ble_eq_true rfl) (Nat.le_of_ble_eq_true rfl) rfl (k3 c1 c2)))))))))))))))))))))))))))
theorem b_X0_live_82 {l : Launch} {z d : Nat} {X : jX} {M : Nat → Int → Int} {Q : Option jV → jM → Prop} {x3 : Int} {x4 : Int} {t0 : Int}   (k1 : t0 = 0 → x4 ≠ 46 → J l z X (d + 1) mX0_live (0, 0) 126 [jR 11, jR 1, jR 6, jI x3, jI x4, jI t0] [] (jG, M) Q) (k2 : t0 = 0 → x4 = 46 → J l z X (d + 1) mX0_live (0, 0) 126 [jR 11, jR 1, jR 6, jI x3, jI x4, jI t0] [] (jG, (jcpy M 13 17 6)) Q) (k3 : t0 ≠ 0 → Q none (jG, (jupd (jupd M 11 4 x3) 11 5 t0))) : J l z X (d + 1) mX0_live (0, 0) 82 [jR 11, jR 1, jR 6, jI x3, jI x4, jN] [jI t0] (jG, M) Q :=
  (J_istore dX0_live_82 (Nat.le_of_ble_eq_true rfl) (J_iload dX0_live_84 rfl (J_if_eq dX0_live_86 (tgt := 101) (by decide) (fun c1 => (J_iload dX0_live_101 rfl (J_bipush dX0_live_103 jc_46 jb_46 (J_icmp_ne dX0_live_105 (tgt := 126) (by decide) (fun c2 => (k1 c1 c2)) (fun c2 => (J_aload_n dX0_live_108 rfl (J_getR (k := 0) jcl_X0 dX0_live_109 wf_X0_12 g_11 (Nat.le_of_ble_eq_true rfl) rfl rfl (J_getRN (k := 0) jcl_X1 dX0_live_112 wf_X0_63 g_12 (Nat.le_of_ble_eq_true rfl) rfl rfl (J_iconst dX0_live_115 jc_0 (J_aload_n dX0_live_116 rfl (J_getR (k := 1) jcl_X0 dX0_live_117 wf_X0_18 g_11 (Nat.le_of_ble_eq_true rfl) rfl rfl (J_iconst dX0_live_120 jc_0 (J_bipush dX0_live_121 jc_6 jb_6 (J_acopy dX0_live_123 wm_X0_66 wac_1 wac_2 wac_3 g_13 g_17 (by decide) (by decide) (by decide) (by decide) (by omega) (k2 c1 c2))))))))))))))) (fun c1 => (J_aload_n dX0_live_89 rfl (J_iload_n dX0_live_90 rfl (J_putI (k := 4) (kz := 4) jcl_X0 dX0_live_91 wf_X0_35 g_11 (Nat.le_of_ble_eq_true rfl) rfl rfl rfl (J_aload_n dX0_live_94 rfl (J_iload dX0_live_95 rfl (J_putI (k := 5) (kz := 5) jcl_X0 dX0_live_97 wf_X0_38 g_11 (Nat.le_of_ble_eq_true rfl) rfl rfl rfl (J_vret dX0_live_100 rfl (k3 c1))))))))))))
theorem b_X0_live_126 {l : Launch} {z d : Nat} {X : jX} {M : Nat → Int → Int} {Q : Option jV → jM → Prop} {x3 : Int} {x4 : Int} {x5 : Int}  (s1 : 0 ≤ x3) (s2 : x3 < 60) (k1 : J l z X d mX1_act (0, 0) 0 [jR 12, jI x4, jI (M 9 x3), jI (M 10 x3)] [] (jG, M) (fun r μ => J l z X (d + 1) mX0_live (0, 0) 147 [jR 11, jR 1, jR 6, jI x3, jI x4, jI x5] (r.toList ++ []) μ Q)) : J l z X (d + 1) mX0_live (0, 0) 126 [jR 11, jR 1, jR 6, jI x3, jI x4, jI x5] [] (jG, M) Q :=
  (J_aload_n dX0_live_126 rfl (J_getR (k := 0) jcl_X0 dX0_live_127 wf_X0_12 g_11 (Nat.le_of_ble_eq_true rfl) rfl rfl (J_iload dX0_live_130 rfl (J_aload_n dX0_live_132 rfl (J_getRN (k := 2) jcl_X4 dX0_live_133 wf_X0_53 g_6 (Nat.le_of_ble_eq_true rfl) rfl rfl (J_iload_n dX0_live_136 rfl (J_iald dX0_live_137 g_9 s1 s2 (J_aload_n dX0_live_138 rfl (J_getRN (k := 3) jcl_X4 dX0_live_139 wf_X0_56 g_6 (Nat.le_of_ble_eq_true rfl) rfl rfl (J_iload_n dX0_live_142 rfl (J_iald dX0_live_143 g_10 s1 s2 (J_callV (a1 := (0, 0)) (a2 := (0, 0)) (mm' := mX1_act) (S := []) [jI x4, jI (M 9 x3), jI (M 10 x3)] md_X1_act im_X1_act se_X1_act dX0_live_144 wm_X0_72 jcl_X1.1 rfl g_12 rfl rfl (Nat.le_of_ble_eq_true rfl) (Nat.le_of_ble_eq_true rfl) rfl k1))))))))))))
theorem b_X0_live_147 {l : Launch} {z d : Nat} {X : jX} {M : Nat → Int → Int} {Q : Option jV → jM → Prop} {x3 : Int} {x4 : Int} {x5 : Int}   (k1 : x4 ≠ 46 → J l z X (d + 1) mX0_live (0, 0) 158 [jR 11, jR 1, jR 6, jI x3, jI x4, jI x5] [] (jG, M) Q) (k2 : x4 = 46 → J l z X d mX0_tellMorning (0, 0) 0 [jR 11] [] (jG, M) (fun r μ => J l z X (d + 1) mX0_live (0, 0) 158 [jR 11, jR 1, jR 6, jI x3, jI x4, jI x5] (r.toList ++ []) μ Q)) : J l z X (d + 1) mX0_live (0, 0) 147 [jR 11, jR 1, jR 6, jI x3, jI x4, jI x5] [] (jG, M) Q :=
  (J_iload dX0_live_147 rfl (J_bipush dX0_live_149 jc_46 jb_46 (J_icmp_ne dX0_live_151 (tgt := 158) (by decide) (fun c1 => (k1 c1)) (fun c1 => (J_aload_n dX0_live_154 rfl (J_callV (a1 := (0, 0)) (a2 := (0, 0)) (mm' := mX0_tellMorning) (S := []) [] md_X0_tellMorning im_X0_tellMorning se_X0_tellMorning dX0_live_155 wm_X0_76 jcl_X0.1 rfl g_11 rfl rfl (Nat.le_of_ble_eq_true rfl) (Nat.le_of_ble_eq_true rfl) rfl (k2 c1)))))))
theorem b_X0_live_158 {l : Launch} {z d : Nat} {X : jX} {M : Nat → Int → Int} {Q : Option jV → jM → Prop} {x3 : Int} {x4 : Int} {x5 : Int}  (s1 : jIn (x3 + 1)) (k1 : J l z X d mX0_live (0, 0) 39 [jR 11, jR 1, jR 6, jI (x3 + 1), jI x4, jI x5] [] (jG, M) Q) : J l z X d mX0_live (0, 0) 158 [jR 11, jR 1, jR 6, jI x3, jI x4, jI x5] [] (jG, M) Q :=
  (J_iinc dX0_live_158 rfl jc_1 s1 (J_goto dX0_live_161 (tgt := 39) (by decide) k1))
theorem b_X0_tellMorning_0 {l : Launch} {z d : Nat} {X : jX} {M : Nat → Int → Int} {Q : Option jV → jM → Prop}    (k1 : (M 11 3) < 0 → Q none (jG, M)) (k2 : 0 ≤ (M 11 3) → (M 11 3) < 60 → (M 11 7) ≠ (-6) → J l z X (d + 1) mX0_tellMorning (0, 0) 59 [jR 11] [] (jG, M) Q) (k3 : 0 ≤ (M 11 3) → (M 11 3) < 60 → (M 11 7) = (-6) → J l z X d mX0_leastPass (0, 0) 0 [jR 11, jN, jN] [] (jG, M) (fun r μ => J l z X (d + 1) mX0_tellMorning (0, 0) 34 [jR 11] (r.toList ++ [jR 11]) μ Q)) (k4 : 0 ≤ (M 11 3) → 60 ≤ (M 11 3) → Q none (jG, M)) : J l z X (d + 1) mX0_tellMorning (0, 0) 0 [jR 11] [] (jG, M) Q :=
  (J_aload_n dX0_tellMorning_0 rfl (J_getI (k := 3) (kz := 3) jcl_X0 dX0_tellMorning_1 wf_X0_31 g_11 (Nat.le_of_ble_eq_true rfl) rfl rfl (J_if_lt dX0_tellMorning_4 (tgt := 19) (by decide) (fun c1 => (J_vret dX0_tellMorning_19 rfl (k1 c1))) (fun c1 => (J_aload_n dX0_tellMorning_7 rfl (J_getI (k := 3) (kz := 3) jcl_X0 dX0_tellMorning_8 wf_X0_31 g_11 (Nat.le_of_ble_eq_true rfl) rfl rfl (J_aload_n dX0_tellMorning_11 rfl (J_getR (k := 2) jcl_X0 dX0_tellMorning_12 wf_X0_24 g_11 (Nat.le_of_ble_eq_true rfl) rfl rfl (J_alen0 dX0_tellMorning_15 g_18 (Nat.le_of_ble_eq_true rfl) (J_icmp_lt dX0_tellMorning_16 (tgt := 20) (by decide) (fun c2 => (J_aload_n dX0_tellMorning_20 rfl (J_getI (k := 7) (kz := 7) jcl_X0 dX0_tellMorning_21 wf_X0_44 g_11 (Nat.le_of_ble_eq_true rfl) rfl rfl (J_bipush dX0_tellMorning_24 jc_m6 jb_m6 (J_icmp_ne dX0_tellMorning_26 (tgt := 59) (by decide) (fun c3 => (k2 c1 c2 c3)) (fun c3 => (J_aload_n dX0_tellMorning_29 rfl (J_aload_n dX0_tellMorning_30 rfl (J_callV (a1 := (0, 0)) (a2 := (0, 0)) (mm' := mX0_leastPass) (S := [jR 11]) [] md_X0_leastPass im_X0_leastPass se_X0_leastPass dX0_tellMorning_31 wm_X0_79 jcl_X0.1 rfl g_11 rfl rfl (Nat.le_of_ble_eq_true rfl) (Nat.le_of_ble_eq_true rfl) rfl (k3 c1 c2 c3)))))))))) (fun c2 => (J_vret dX0_tellMorning_19 rfl (k4 c1 c2)))))))))))))
theorem b_X0_tellMorning_34 {l : Launch} {z d : Nat} {X : jX} {M : Nat → Int → Int} {Q : Option jV → jM → Prop} {t1 : Int}   (k1 : ((jupd M 11 7 t1) 11 7) ≠ (-6) → J l z X d mX0_tellMorning (0, 0) 56 [jR 11] [jI ((jupd M 11 7 t1) 11 3), jR 11] (jG, (jupd M 11 7 t1)) Q) (k2 : ((jupd M 11 7 t1) 11 7) = (-6) → J l z X d mX0_tellMorning (0, 0) 56 [jR 11] [jI (-6), jR 11] (jG, (jupd M 11 7 t1)) Q) : J l z X d mX0_tellMorning (0, 0) 34 [jR 11] [jI t1, jR 11] (jG, M) Q :=
  (J_putI (k := 7) (kz := 7) jcl_X0 dX0_tellMorning_34 wf_X0_44 g_11 (Nat.le_of_ble_eq_true rfl) rfl rfl rfl (J_aload_n dX0_tellMorning_37 rfl (J_aload_n dX0_tellMorning_38 rfl (J_getI (k := 7) (kz := 7) jcl_X0 dX0_tellMorning_39 wf_X0_44 g_11 (Nat.le_of_ble_eq_true rfl) rfl rfl (J_bipush dX0_tellMorning_42 jc_m6 jb_m6 (J_icmp_ne dX0_tellMorning_44 (tgt := 52) (by decide) (fun c1 => (J_aload_n dX0_tellMorning_52 rfl (J_getI (k := 3) (kz := 3) jcl_X0 dX0_tellMorning_53 wf_X0_31 g_11 (Nat.le_of_ble_eq_true rfl) rfl rfl (k1 c1)))) (fun c1 => (J_bipush dX0_tellMorning_47 jc_m6 jb_m6 (J_goto dX0_tellMorning_49 (tgt := 56) (by decide) (k2 c1))))))))))
theorem b_X0_tellMorning_56 {l : Launch} {z d : Nat} {X : jX} {M : Nat → Int → Int} {Q : Option jV → jM → Prop} {t1 : Int}   (k1 : J l z X d mX0_tellMorning (0, 0) 59 [jR 11] [] (jG, (jupd M 11 6 t1)) Q) : J l z X d mX0_tellMorning (0, 0) 56 [jR 11] [jI t1, jR 11] (jG, M) Q :=
  (J_putI (k := 6) (kz := 6) jcl_X0 dX0_tellMorning_56 wf_X0_41 g_11 (Nat.le_of_ble_eq_true rfl) rfl rfl rfl k1)
theorem b_X0_tellMorning_59 {l : Launch} {z d : Nat} {X : jX} {M : Nat → Int → Int} {Q : Option jV → jM → Prop}    (k1 : J l z X d mX1_oldestOne (0, 0) 0 [jR 12, jN, jN, jN] [] (jG, M) (fun r μ => J l z X (d + 1) mX0_tellMorning (0, 0) 74 [jR 11] (r.toList ++ [jI (M 11 3), jR 18]) μ Q)) : J l z X (d + 1) mX0_tellMorning (0, 0) 59 [jR 11] [] (jG, M) Q :=
  (J_aload_n dX0_tellMorning_59 rfl (J_getR (k := 2) jcl_X0 dX0_tellMorning_60 wf_X0_24 g_11 (Nat.le_of_ble_eq_true rfl) rfl rfl (J_aload_n dX0_tellMorning_63 rfl (J_getI (k := 3) (kz := 3) jcl_X0 dX0_tellMorning_64 wf_X0_31 g_11 (Nat.le_of_ble_eq_true rfl) rfl rfl (J_aload_n dX0_tellMorning_67 rfl (J_getR (k := 0) jcl_X0 dX0_tellMorning_68 wf_X0_12 g_11 (Nat.le_of_ble_eq_true rfl) rfl rfl (J_callV (a1 := (0, 0)) (a2 := (0, 0)) (mm' := mX1_oldestOne) (S := [jI (M 11 3), jR 18]) [] md_X1_oldestOne im_X1_oldestOne se_X1_oldestOne dX0_tellMorning_71 wm_X0_83 jcl_X1.1 rfl g_12 rfl rfl (Nat.le_of_ble_eq_true rfl) (Nat.le_of_ble_eq_true rfl) rfl k1)))))))
theorem b_X0_tellMorning_74 {l : Launch} {z d : Nat} {X : jX} {M : Nat → Int → Int} {Q : Option jV → jM → Prop} {t1 : Int} {t2 : Int}  (s1 : 0 ≤ t1) (s2 : t1 < 60) (s3 : jIn (((jupd M 18 t1 t2) 11 3) + 1)) (k1 : Q none (jG, (jupd (jupd M 18 t1 t2) 11 3 (((jupd M 18 t1 t2) 11 3) + 1)))) : J l z X d mX0_tellMorning (0, 0) 74 [jR 11] [jI t2, jI t1, jR 18] (jG, M) Q :=
  (J_iast dX0_tellMorning_74 g_18 s1 s2 (J_aload_n dX0_tellMorning_75 rfl (J_dupR dX0_tellMorning_76 (J_getI (k := 3) (kz := 3) jcl_X0 dX0_tellMorning_77 wf_X0_31 g_11 (Nat.le_of_ble_eq_true rfl) rfl rfl (J_iconst dX0_tellMorning_80 jc_1 (J_iadd dX0_tellMorning_81 s3 (J_putI (k := 3) (kz := 3) jcl_X0 dX0_tellMorning_82 wf_X0_31 g_11 (Nat.le_of_ble_eq_true rfl) rfl rfl rfl (J_vret dX0_tellMorning_85 rfl k1))))))))
theorem b_X0_leastPass_0 {l : Launch} {z d : Nat} {X : jX} {M : Nat → Int → Int} {Q : Option jV → jM → Prop}    (k1 : J l z X d mX0_leastPass (0, 0) 2 [jR 11, jI 0, jN] [] (jG, M) Q) : J l z X d mX0_leastPass (0, 0) 0 [jR 11, jN, jN] [] (jG, M) Q :=
  (J_iconst dX0_leastPass_0 jc_0 (J_istore_n dX0_leastPass_1 (Nat.le_of_ble_eq_true rfl) k1))
theorem b_X0_leastPass_2 {l : Launch} {z d : Nat} {X : jX} {M : Nat → Int → Int} {Q : Option jV → jM → Prop} {x1 : Int}  (s1 : x1 < 6 → jIn (x1 + 1)) (k1 : 6 ≤ x1 → Q (some (jI (-6))) (jG, M)) (k2 : x1 < 6 → J l z X d mX0_leastPass (0, 0) 12 [jR 11, jI x1, jI (x1 + 1)] [] (jG, M) Q) : J l z X d mX0_leastPass (0, 0) 2 [jR 11, jI x1, jN] [] (jG, M) Q :=
  (J_iload_n dX0_leastPass_2 rfl (J_bipush dX0_leastPass_3 jc_6 jb_6 (J_icmp_ge dX0_leastPass_5 (tgt := 68) (by decide) (fun c1 => (J_bipush dX0_leastPass_68 jc_m6 jb_m6 (J_iret dX0_leastPass_70 rfl (k1 c1)))) (fun c1 => (J_iload_n dX0_leastPass_8 rfl (J_iconst dX0_leastPass_9 jc_1 (J_iadd dX0_leastPass_10 (s1 c1) (J_istore_n dX0_leastPass_11 (Nat.le_of_ble_eq_true rfl) (k2 c1)))))))))
theorem b_X0_leastPass_12 {l : Launch} {z d : Nat} {X : jX} {M : Nat → Int → Int} {Q : Option jV → jM → Prop} {x1 : Int} {x2 : Int}  (s1 : 6 ≤ x2 → jIn (x1 + 1)) (k1 : 6 ≤ x2 → J l z X (d + 1) mX0_leastPass (0, 0) 2 [jR 11, jI (x1 + 1), jI x2] [] (jG, M) Q) (k2 : x2 < 6 → J l z X d mX1_has (0, 0) 0 [jR 12, jI x1] [] (jG, M) (fun r μ => J l z X (d + 1) mX0_leastPass (0, 0) 26 [jR 11, jI x1, jI x2] (r.toList ++ []) μ Q)) : J l z X (d + 1) mX0_leastPass (0, 0) 12 [jR 11, jI x1, jI x2] [] (jG, M) Q :=
  (J_iload_n dX0_leastPass_12 rfl (J_bipush dX0_leastPass_13 jc_6 jb_6 (J_icmp_ge dX0_leastPass_15 (tgt := 62) (by decide) (fun c1 => (J_iinc dX0_leastPass_62 rfl jc_1 (s1 c1) (J_goto dX0_leastPass_65 (tgt := 2) (by decide) (k1 c1)))) (fun c1 => (J_aload_n dX0_leastPass_18 rfl (J_getR (k := 0) jcl_X0 dX0_leastPass_19 wf_X0_12 g_11 (Nat.le_of_ble_eq_true rfl) rfl rfl (J_iload_n dX0_leastPass_22 rfl (J_callV (a1 := (0, 0)) (a2 := (0, 0)) (mm' := mX1_has) (S := []) [jI x1] md_X1_has im_X1_has se_X1_has dX0_leastPass_23 wm_X0_86 jcl_X1.1 rfl g_12 rfl rfl (Nat.le_of_ble_eq_true rfl) (Nat.le_of_ble_eq_true rfl) rfl (k2 c1)))))))))
theorem b_X0_leastPass_26 {l : Launch} {z d : Nat} {X : jX} {M : Nat → Int → Int} {Q : Option jV → jM → Prop} {x1 : Int} {x2 : Int} {t0 : Int}   (k1 : t0 = 0 → J l z X (d + 1) mX0_leastPass (0, 0) 56 [jR 11, jI x1, jI x2] [] (jG, M) Q) (k2 : t0 ≠ 0 → J l z X d mX1_has (0, 0) 0 [jR 12, jI x2] [] (jG, M) (fun r μ => J l z X (d + 1) mX0_leastPass (0, 0) 37 [jR 11, jI x1, jI x2] (r.toList ++ []) μ Q)) : J l z X (d + 1) mX0_leastPass (0, 0) 26 [jR 11, jI x1, jI x2] [jI t0] (jG, M) Q :=
  (J_if_eq dX0_leastPass_26 (tgt := 56) (by decide) (fun c1 => (k1 c1)) (fun c1 => (J_aload_n dX0_leastPass_29 rfl (J_getR (k := 0) jcl_X0 dX0_leastPass_30 wf_X0_12 g_11 (Nat.le_of_ble_eq_true rfl) rfl rfl (J_iload_n dX0_leastPass_33 rfl (J_callV (a1 := (0, 0)) (a2 := (0, 0)) (mm' := mX1_has) (S := []) [jI x2] md_X1_has im_X1_has se_X1_has dX0_leastPass_34 wm_X0_86 jcl_X1.1 rfl g_12 rfl rfl (Nat.le_of_ble_eq_true rfl) (Nat.le_of_ble_eq_true rfl) rfl (k2 c1)))))))
theorem b_X0_leastPass_37 {l : Launch} {z d : Nat} {X : jX} {M : Nat → Int → Int} {Q : Option jV → jM → Prop} {x1 : Int} {x2 : Int} {t0 : Int}   (k1 : t0 = 0 → J l z X (d + 1) mX0_leastPass (0, 0) 56 [jR 11, jI x1, jI x2] [] (jG, M) Q) (k2 : t0 ≠ 0 → J l z X d mX0_hasPassed (0, 0) 0 [jR 11, jI x1, jI x2, jN, jN] [] (jG, M) (fun r μ => J l z X (d + 1) mX0_leastPass (0, 0) 46 [jR 11, jI x1, jI x2] (r.toList ++ []) μ Q)) : J l z X (d + 1) mX0_leastPass (0, 0) 37 [jR 11, jI x1, jI x2] [jI t0] (jG, M) Q :=
  (J_if_eq dX0_leastPass_37 (tgt := 56) (by decide) (fun c1 => (k1 c1)) (fun c1 => (J_aload_n dX0_leastPass_40 rfl (J_iload_n dX0_leastPass_41 rfl (J_iload_n dX0_leastPass_42 rfl (J_callV (a1 := (0, 0)) (a2 := (0, 0)) (mm' := mX0_hasPassed) (S := []) [jI x1, jI x2] md_X0_hasPassed im_X0_hasPassed se_X0_hasPassed dX0_leastPass_43 wm_X0_90 jcl_X0.1 rfl g_11 rfl rfl (Nat.le_of_ble_eq_true rfl) (Nat.le_of_ble_eq_true rfl) rfl (k2 c1)))))))
theorem b_X0_leastPass_46 {l : Launch} {z d : Nat} {X : jX} {M : Nat → Int → Int} {Q : Option jV → jM → Prop} {x1 : Int} {x2 : Int} {t0 : Int}  (s1 : t0 ≠ 0 → jIn (10 * x1)) (s2 : t0 ≠ 0 → jIn ((10 * x1) + x2)) (k1 : t0 = 0 → J l z X d mX0_leastPass (0, 0) 56 [jR 11, jI x1, jI x2] [] (jG, M) Q) (k2 : t0 ≠ 0 → Q (some (jI ((10 * x1) + x2))) (jG, M)) : J l z X d mX0_leastPass (0, 0) 46 [jR 11, jI x1, jI x2] [jI t0] (jG, M) Q :=
  (J_if_eq dX0_leastPass_46 (tgt := 56) (by decide) (fun c1 => (k1 c1)) (fun c1 => (J_bipush dX0_leastPass_49 jc_10 jb_10 (J_iload_n dX0_leastPass_51 rfl (J_imul dX0_leastPass_52 (s1 c1) (J_iload_n dX0_leastPass_53 rfl (J_iadd dX0_leastPass_54 (s2 c1) (J_iret dX0_leastPass_55 rfl (k2 c1)))))))))
theorem b_X0_leastPass_56 {l : Launch} {z d : Nat} {X : jX} {M : Nat → Int → Int} {Q : Option jV → jM → Prop} {x1 : Int} {x2 : Int}  (s1 : jIn (x2 + 1)) (k1 : J l z X d mX0_leastPass (0, 0) 12 [jR 11, jI x1, jI (x2 + 1)] [] (jG, M) Q) : J l z X d mX0_leastPass (0, 0) 56 [jR 11, jI x1, jI x2] [] (jG, M) Q :=
  (J_iinc dX0_leastPass_56 rfl jc_1 s1 (J_goto dX0_leastPass_59 (tgt := 12) (by decide) k1))
theorem b_X0_hasPassed_0 {l : Launch} {z d : Nat} {X : jX} {M : Nat → Int → Int} {Q : Option jV → jM → Prop} {x1 : Int} {x2 : Int}  (s1 : 0 ≤ x1) (s2 : x1 < 6) (s3 : 0 ≤ x2) (s4 : x2 < 6) (k1 : J l z X d mJ6_compare_7cf53 (0, 0) 0 [jI (M 17 x1), jI (M 17 x2)] [] (jG, M) (fun r μ => J l z X (d + 1) mX0_hasPassed (0, 0) 15 [jR 11, jI x1, jI x2, jN, jN] (r.toList ++ []) μ Q)) : J l z X (d + 1) mX0_hasPassed (0, 0) 0 [jR 11, jI x1, jI x2, jN, jN] [] (jG, M) Q :=
  (J_aload_n dX0_hasPassed_0 rfl (J_getR (k := 1) jcl_X0 dX0_hasPassed_1 wf_X0_18 g_11 (Nat.le_of_ble_eq_true rfl) rfl rfl (J_iload_n dX0_hasPassed_4 rfl (J_iald dX0_hasPassed_5 g_17 s1 s2 (J_aload_n dX0_hasPassed_6 rfl (J_getR (k := 1) jcl_X0 dX0_hasPassed_7 wf_X0_18 g_11 (Nat.le_of_ble_eq_true rfl) rfl rfl (J_iload_n dX0_hasPassed_10 rfl (J_iald dX0_hasPassed_11 g_17 s3 s4 (J_callS (a1 := (0, 0)) (a2 := (0, 0)) (mm' := mJ6_compare_7cf53) (S := []) [jI (M 17 x1), jI (M 17 x2)] md_J6_compare_7cf53 is_J6_compare_7cf53 dX0_hasPassed_12 wm_X0_94 rfl rfl (Nat.le_of_ble_eq_true rfl) (Nat.le_of_ble_eq_true rfl) rfl k1)))))))))
theorem b_X0_hasPassed_15 {l : Launch} {z d : Nat} {X : jX} {M : Nat → Int → Int} {Q : Option jV → jM → Prop} {x1 : Int} {x2 : Int} {t0 : Int}  (s1 : 0 ≤ x1) (s2 : x1 < 6) (s3 : 0 ≤ x2) (s4 : x2 < 6) (k1 : J l z X d mJ6_compare_7cf53 (0, 0) 0 [jI (M 13 x1), jI (M 13 x2)] [] (jG, M) (fun r μ => J l z X (d + 1) mX0_hasPassed (0, 0) 37 [jR 11, jI x1, jI x2, jI t0, jN] (r.toList ++ []) μ Q)) : J l z X (d + 1) mX0_hasPassed (0, 0) 15 [jR 11, jI x1, jI x2, jN, jN] [jI t0] (jG, M) Q :=
  (J_istore_n dX0_hasPassed_15 (Nat.le_of_ble_eq_true rfl) (J_aload_n dX0_hasPassed_16 rfl (J_getR (k := 0) jcl_X0 dX0_hasPassed_17 wf_X0_12 g_11 (Nat.le_of_ble_eq_true rfl) rfl rfl (J_getRN (k := 0) jcl_X1 dX0_hasPassed_20 wf_X0_63 g_12 (Nat.le_of_ble_eq_true rfl) rfl rfl (J_iload_n dX0_hasPassed_23 rfl (J_iald dX0_hasPassed_24 g_13 s1 s2 (J_aload_n dX0_hasPassed_25 rfl (J_getR (k := 0) jcl_X0 dX0_hasPassed_26 wf_X0_12 g_11 (Nat.le_of_ble_eq_true rfl) rfl rfl (J_getRN (k := 0) jcl_X1 dX0_hasPassed_29 wf_X0_63 g_12 (Nat.le_of_ble_eq_true rfl) rfl rfl (J_iload_n dX0_hasPassed_32 rfl (J_iald dX0_hasPassed_33 g_13 s3 s4 (J_callS (a1 := (0, 0)) (a2 := (0, 0)) (mm' := mJ6_compare_7cf53) (S := []) [jI (M 13 x1), jI (M 13 x2)] md_J6_compare_7cf53 is_J6_compare_7cf53 dX0_hasPassed_34 wm_X0_94 rfl rfl (Nat.le_of_ble_eq_true rfl) (Nat.le_of_ble_eq_true rfl) rfl k1))))))))))))
theorem b_X0_hasPassed_37 {l : Launch} {z d : Nat} {X : jX} {M : Nat → Int → Int} {Q : Option jV → jM → Prop} {x1 : Int} {x2 : Int} {x3 : Int} {t0 : Int}   (k1 : 0 ≤ x3 → J l z X d mX0_hasPassed (0, 0) 48 [jR 11, jI x1, jI x2, jI x3, jI t0] [] (jG, M) Q) (k2 : x3 < 0 → 0 < t0 → Q (some (jI 1)) (jG, M)) (k3 : x3 < 0 → t0 ≤ 0 → J l z X d mX0_hasPassed (0, 0) 48 [jR 11, jI x1, jI x2, jI x3, jI t0] [] (jG, M) Q) : J l z X d mX0_hasPassed (0, 0) 37 [jR 11, jI x1, jI x2, jI x3, jN] [jI t0] (jG, M) Q :=
  (J_istore dX0_hasPassed_37 (Nat.le_of_ble_eq_true rfl) (J_iload_n dX0_hasPassed_39 rfl (J_if_ge dX0_hasPassed_40 (tgt := 48) (by decide) (fun c1 => (k1 c1)) (fun c1 => (J_iload dX0_hasPassed_43 rfl (J_if_gt dX0_hasPassed_45 (tgt := 57) (by decide) (fun c2 => (J_iconst dX0_hasPassed_57 jc_1 (J_goto dX0_hasPassed_58 (tgt := 62) (by decide) (J_zret dX0_hasPassed_62 rfl (Or.inr rfl) (k2 c1 c2))))) (fun c2 => (k3 c1 c2))))))))
theorem b_X0_hasPassed_48 {l : Launch} {z d : Nat} {X : jX} {M : Nat → Int → Int} {Q : Option jV → jM → Prop} {x1 : Int} {x2 : Int} {x3 : Int} {x4 : Int}   (k1 : x3 ≤ 0 → Q (some (jI 0)) (jG, M)) (k2 : 0 < x3 → 0 ≤ x4 → Q (some (jI 0)) (jG, M)) (k3 : 0 < x3 → x4 < 0 → Q (some (jI 1)) (jG, M)) : J l z X d mX0_hasPassed (0, 0) 48 [jR 11, jI x1, jI x2, jI x3, jI x4] [] (jG, M) Q :=
  (J_iload_n dX0_hasPassed_48 rfl (J_if_le dX0_hasPassed_49 (tgt := 61) (by decide) (fun c1 => (J_iconst dX0_hasPassed_61 jc_0 (J_zret dX0_hasPassed_62 rfl (Or.inl rfl) (k1 c1)))) (fun c1 => (J_iload dX0_hasPassed_52 rfl (J_if_ge dX0_hasPassed_54 (tgt := 61) (by decide) (fun c2 => (J_iconst dX0_hasPassed_61 jc_0 (J_zret dX0_hasPassed_62 rfl (Or.inl rfl) (k2 c1 c2)))) (fun c2 => (J_iconst dX0_hasPassed_57 jc_1 (J_goto dX0_hasPassed_58 (tgt := 62) (by decide) (J_zret dX0_hasPassed_62 rfl (Or.inr rfl) (k3 c1 c2))))))))))
theorem b_X4_add_0 {l : Launch} {z d : Nat} {X : jX} {M : Nat → Int → Int} {Q : Option jV → jM → Prop} {x1 : Int}  (s1 : 0 ≤ (M 6 4) → (M 6 4) < 60 → 0 ≤ (M 6 4)) (s2 : 0 ≤ (M 6 4) → (M 6 4) < 60 → (M 6 4) < 60) (s3 : 0 ≤ (M 6 4) → (M 6 4) < 60 → jIn (((jupd M 7 (M 6 4) x1) 6 4) + 1)) (k1 : (M 6 4) < 0 → Q (some (jI 0)) (jG, M)) (k2 : 0 ≤ (M 6 4) → (M 6 4) < 60 → Q (some (jI 1)) (jG, (jupd (jupd M 7 (M 6 4) x1) 6 4 (((jupd M 7 (M 6 4) x1) 6 4) + 1)))) (k3 : 0 ≤ (M 6 4) → 60 ≤ (M 6 4) → Q (some (jI 0)) (jG, M)) : J l z X d mX4_add (0, 0) 0 [jR 6, jI x1] [] (jG, M) Q :=
  (J_aload_n dX4_add_0 rfl (J_getI (k := 4) (kz := 4) jcl_X4 dX4_add_1 wf_X4_24 g_6 (Nat.le_of_ble_eq_true rfl) rfl rfl (J_if_lt dX4_add_4 (tgt := 16) (by decide) (fun c1 => (J_iconst dX4_add_16 jc_0 (J_zret dX4_add_17 rfl (Or.inl rfl) (k1 c1)))) (fun c1 => (J_aload_n dX4_add_7 rfl (J_getI (k := 4) (kz := 4) jcl_X4 dX4_add_8 wf_X4_24 g_6 (Nat.le_of_ble_eq_true rfl) rfl rfl (J_bipush dX4_add_11 jc_60 jb_60 (J_icmp_lt dX4_add_13 (tgt := 18) (by decide) (fun c2 => (J_aload_n dX4_add_18 rfl (J_getR (k := 0) jcl_X4 dX4_add_19 wf_X4_11 g_6 (Nat.le_of_ble_eq_true rfl) rfl rfl (J_aload_n dX4_add_22 rfl (J_getI (k := 4) (kz := 4) jcl_X4 dX4_add_23 wf_X4_24 g_6 (Nat.le_of_ble_eq_true rfl) rfl rfl (J_iload_n dX4_add_26 rfl (J_iast dX4_add_27 g_7 (s1 c1 c2) (s2 c1 c2) (J_aload_n dX4_add_28 rfl (J_dupR dX4_add_29 (J_getI (k := 4) (kz := 4) jcl_X4 dX4_add_30 wf_X4_24 g_6 (Nat.le_of_ble_eq_true rfl) rfl rfl (J_iconst dX4_add_33 jc_1 (J_iadd dX4_add_34 (s3 c1 c2) (J_putI (k := 4) (kz := 4) jcl_X4 dX4_add_35 wf_X4_24 g_6 (Nat.le_of_ble_eq_true rfl) rfl rfl rfl (J_iconst dX4_add_38 jc_1 (J_zret dX4_add_39 rfl (Or.inr rfl) (k2 c1 c2)))))))))))))))) (fun c2 => (J_iconst dX4_add_16 jc_0 (J_zret dX4_add_17 rfl (Or.inl rfl) (k3 c1 c2))))))))))))
theorem b_X4_read_0 {l : Launch} {z d : Nat} {X : jX} {M : Nat → Int → Int} {Q : Option jV → jM → Prop}    (k1 : J l z X d mX4_read (0, 0) 11 [jR 6, jI 0, jI 0, jI 0, jN] [] (jG, (jupd M 6 5 0)) Q) : J l z X d mX4_read (0, 0) 0 [jR 6, jN, jN, jN, jN] [] (jG, M) Q :=
  (J_aload_n dX4_read_0 rfl (J_iconst dX4_read_1 jc_0 (J_putI (k := 5) (kz := 5) jcl_X4 dX4_read_2 wf_X4_28 g_6 (Nat.le_of_ble_eq_true rfl) rfl rfl rfl (J_iconst dX4_read_5 jc_0 (J_istore_n dX4_read_6 (Nat.le_of_ble_eq_true rfl) (J_iconst dX4_read_7 jc_0 (J_istore_n dX4_read_8 (Nat.le_of_ble_eq_true rfl) (J_iconst dX4_read_9 jc_0 (J_istore_n dX4_read_10 (Nat.le_of_ble_eq_true rfl) k1)))))))))
theorem b_X4_read_11 {l : Launch} {z d : Nat} {X : jX} {M : Nat → Int → Int} {Q : Option jV → jM → Prop} {x1 : Int} {x2 : Int} {x3 : Int}  (s1 : x3 < (M 6 4) → x3 < 60 → 0 ≤ x3) (s2 : x3 < (M 6 4) → x3 < 60 → x3 < 60) (k1 : (M 6 4) ≤ x3 → J l z X (d + 1) mX4_read (0, 0) 179 [jR 6, jI x1, jI x2, jI x3, jN] [] (jG, M) Q) (k2 : x3 < (M 6 4) → 60 ≤ x3 → J l z X (d + 1) mX4_read (0, 0) 179 [jR 6, jI x1, jI x2, jI x3, jN] [] (jG, M) Q) (k3 : x3 < (M 6 4) → x3 < 60 → x1 ≠ 0 → J l z X (d + 1) mX4_read (0, 0) 56 [jR 6, jI x1, jI x2, jI x3, jI (M 7 x3)] [] (jG, M) Q) (k4 : x3 < (M 6 4) → x3 < 60 → x1 = 0 → J l z X d mX4_isLetter (0, 0) 0 [jI (M 7 x3)] [] (jG, M) (fun r μ => J l z X (d + 1) mX4_read (0, 0) 42 [jR 6, jI x1, jI x2, jI x3, jI (M 7 x3)] (r.toList ++ []) μ Q)) : J l z X (d + 1) mX4_read (0, 0) 11 [jR 6, jI x1, jI x2, jI x3, jN] [] (jG, M) Q :=
  (J_iload_n dX4_read_11 rfl (J_aload_n dX4_read_12 rfl (J_getI (k := 4) (kz := 4) jcl_X4 dX4_read_13 wf_X4_24 g_6 (Nat.le_of_ble_eq_true rfl) rfl rfl (J_icmp_ge dX4_read_16 (tgt := 179) (by decide) (fun c1 => (k1 c1)) (fun c1 => (J_iload_n dX4_read_19 rfl (J_bipush dX4_read_20 jc_60 jb_60 (J_icmp_ge dX4_read_22 (tgt := 179) (by decide) (fun c2 => (k2 c1 c2)) (fun c2 => (J_aload_n dX4_read_25 rfl (J_getR (k := 0) jcl_X4 dX4_read_26 wf_X4_11 g_6 (Nat.le_of_ble_eq_true rfl) rfl rfl (J_iload_n dX4_read_29 rfl (J_iald dX4_read_30 g_7 (s1 c1 c2) (s2 c1 c2) (J_istore dX4_read_31 (Nat.le_of_ble_eq_true rfl) (J_iload_n dX4_read_33 rfl (J_if_ne dX4_read_34 (tgt := 56) (by decide) (fun c3 => (k3 c1 c2 c3)) (fun c3 => (J_iload dX4_read_37 rfl (J_callS (a1 := (0, 0)) (a2 := (0, 0)) (mm' := mX4_isLetter) (S := []) [jI (M 7 x3)] md_X4_isLetter is_X4_isLetter dX4_read_39 wm_X4_31 rfl rfl (Nat.le_of_ble_eq_true rfl) (Nat.le_of_ble_eq_true rfl) rfl (k4 c1 c2 c3))))))))))))))))))))
theorem b_X4_read_42 {l : Launch} {z d : Nat} {X : jX} {M : Nat → Int → Int} {Q : Option jV → jM → Prop} {x1 : Int} {x2 : Int} {x3 : Int} {x4 : Int} {t0 : Int}  (s1 : t0 ≠ 0 → jIn (x4 - 65)) (k1 : t0 = 0 → J l z X d mX4_read (0, 0) 56 [jR 6, jI x1, jI x2, jI x3, jI x4] [] (jG, M) Q) (k2 : t0 ≠ 0 → J l z X d mX4_read (0, 0) 173 [jR 6, jI 1, jI (x4 - 65), jI x3, jI x4] [] (jG, M) Q) : J l z X d mX4_read (0, 0) 42 [jR 6, jI x1, jI x2, jI x3, jI x4] [jI t0] (jG, M) Q :=
  (J_if_eq dX4_read_42 (tgt := 56) (by decide) (fun c1 => (k1 c1)) (fun c1 => (J_iload dX4_read_45 rfl (J_bipush dX4_read_47 jc_65 jb_65 (J_isub dX4_read_49 (s1 c1) (J_istore_n dX4_read_50 (Nat.le_of_ble_eq_true rfl) (J_iconst dX4_read_51 jc_1 (J_istore_n dX4_read_52 (Nat.le_of_ble_eq_true rfl) (J_goto dX4_read_53 (tgt := 173) (by decide) (k2 c1))))))))))
theorem b_X4_read_56 {l : Launch} {z d : Nat} {X : jX} {M : Nat → Int → Int} {Q : Option jV → jM → Prop} {x1 : Int} {x2 : Int} {x3 : Int} {x4 : Int}   (k1 : x1 ≠ 0 → J l z X d mX4_read (0, 0) 85 [jR 6, jI x1, jI x2, jI x3, jI x4] [] (jG, M) Q) (k2 : x1 = 0 → x4 = 33 → J l z X d mX4_read (0, 0) 74 [jR 6, jI x1, jI x2, jI x3, jI x4] [] (jG, M) Q) (k3 : x1 = 0 → x4 ≠ 33 → x4 ≠ 46 → J l z X d mX4_read (0, 0) 85 [jR 6, jI x1, jI x2, jI x3, jI x4] [] (jG, M) Q) (k4 : x1 = 0 → x4 ≠ 33 → x4 = 46 → J l z X d mX4_read (0, 0) 74 [jR 6, jI x1, jI x2, jI x3, jI x4] [] (jG, M) Q) : J l z X d mX4_read (0, 0) 56 [jR 6, jI x1, jI x2, jI x3, jI x4] [] (jG, M) Q :=
  (J_iload_n dX4_read_56 rfl (J_if_ne dX4_read_57 (tgt := 85) (by decide) (fun c1 => (k1 c1)) (fun c1 => (J_iload dX4_read_60 rfl (J_bipush dX4_read_62 jc_33 jb_33 (J_icmp_eq dX4_read_64 (tgt := 74) (by decide) (fun c2 => (k2 c1 c2)) (fun c2 => (J_iload dX4_read_67 rfl (J_bipush dX4_read_69 jc_46 jb_46 (J_icmp_ne dX4_read_71 (tgt := 85) (by decide) (fun c3 => (k3 c1 c2 c3)) (fun c3 => (k4 c1 c2 c3))))))))))))
theorem b_X4_read_74 {l : Launch} {z d : Nat} {X : jX} {M : Nat → Int → Int} {Q : Option jV → jM → Prop} {x1 : Int} {x2 : Int} {x3 : Int} {x4 : Int}   (k1 : J l z X d mX4_addAct (0, 0) 0 [jR 6, jI x4, jI 0, jI 0] [] (jG, M) (fun r μ => J l z X (d + 1) mX4_read (0, 0) 82 [jR 6, jI x1, jI x2, jI x3, jI x4] (r.toList ++ []) μ Q)) : J l z X (d + 1) mX4_read (0, 0) 74 [jR 6, jI x1, jI x2, jI x3, jI x4] [] (jG, M) Q :=
  (J_aload_n dX4_read_74 rfl (J_iload dX4_read_75 rfl (J_iconst dX4_read_77 jc_0 (J_iconst dX4_read_78 jc_0 (J_callV (a1 := (0, 0)) (a2 := (0, 0)) (mm' := mX4_addAct) (S := []) [jI x4, jI 0, jI 0] md_X4_addAct im_X4_addAct se_X4_addAct dX4_read_79 wm_X4_35 jcl_X4.1 rfl g_6 rfl rfl (Nat.le_of_ble_eq_true rfl) (Nat.le_of_ble_eq_true rfl) rfl k1)))))
theorem b_X4_read_82 {l : Launch} {z d : Nat} {X : jX} {M : Nat → Int → Int} {Q : Option jV → jM → Prop} {x1 : Int} {x2 : Int} {x3 : Int} {x4 : Int}   (k1 : J l z X d mX4_read (0, 0) 173 [jR 6, jI x1, jI x2, jI x3, jI x4] [] (jG, M) Q) : J l z X d mX4_read (0, 0) 82 [jR 6, jI x1, jI x2, jI x3, jI x4] [] (jG, M) Q :=
  (J_goto dX4_read_82 (tgt := 173) (by decide) k1)
theorem b_X4_read_85 {l : Launch} {z d : Nat} {X : jX} {M : Nat → Int → Int} {Q : Option jV → jM → Prop} {x1 : Int} {x2 : Int} {x3 : Int} {x4 : Int}   (k1 : x1 ≠ 1 → J l z X d mX4_read (0, 0) 124 [jR 6, jI x1, jI x2, jI x3, jI x4] [] (jG, M) Q) (k2 : x1 = 1 → x4 = 98 → J l z X d mX4_read (0, 0) 111 [jR 6, jI x1, jI x2, jI x3, jI x4] [] (jG, M) Q) (k3 : x1 = 1 → x4 ≠ 98 → x4 = 104 → J l z X d mX4_read (0, 0) 111 [jR 6, jI x1, jI x2, jI x3, jI x4] [] (jG, M) Q) (k4 : x1 = 1 → x4 ≠ 98 → x4 ≠ 104 → x4 ≠ 120 → J l z X d mX4_read (0, 0) 124 [jR 6, jI x1, jI x2, jI x3, jI x4] [] (jG, M) Q) (k5 : x1 = 1 → x4 ≠ 98 → x4 ≠ 104 → x4 = 120 → J l z X d mX4_read (0, 0) 111 [jR 6, jI x1, jI x2, jI x3, jI x4] [] (jG, M) Q) : J l z X d mX4_read (0, 0) 85 [jR 6, jI x1, jI x2, jI x3, jI x4] [] (jG, M) Q :=
  (J_iload_n dX4_read_85 rfl (J_iconst dX4_read_86 jc_1 (J_icmp_ne dX4_read_87 (tgt := 124) (by decide) (fun c1 => (k1 c1)) (fun c1 => (J_iload dX4_read_90 rfl (J_bipush dX4_read_92 jc_98 jb_98 (J_icmp_eq dX4_read_94 (tgt := 111) (by decide) (fun c2 => (k2 c1 c2)) (fun c2 => (J_iload dX4_read_97 rfl (J_bipush dX4_read_99 jc_104 jb_104 (J_icmp_eq dX4_read_101 (tgt := 111) (by decide) (fun c3 => (k3 c1 c2 c3)) (fun c3 => (J_iload dX4_read_104 rfl (J_bipush dX4_read_106 jc_120 jb_120 (J_icmp_ne dX4_read_108 (tgt := 124) (by decide) (fun c4 => (k4 c1 c2 c3 c4)) (fun c4 => (k5 c1 c2 c3 c4)))))))))))))))))
theorem b_X4_read_111 {l : Launch} {z d : Nat} {X : jX} {M : Nat → Int → Int} {Q : Option jV → jM → Prop} {x1 : Int} {x2 : Int} {x3 : Int} {x4 : Int}   (k1 : J l z X d mX4_addAct (0, 0) 0 [jR 6, jI x4, jI x2, jI x2] [] (jG, M) (fun r μ => J l z X (d + 1) mX4_read (0, 0) 119 [jR 6, jI x1, jI x2, jI x3, jI x4] (r.toList ++ []) μ Q)) : J l z X (d + 1) mX4_read (0, 0) 111 [jR 6, jI x1, jI x2, jI x3, jI x4] [] (jG, M) Q :=
  (J_aload_n dX4_read_111 rfl (J_iload dX4_read_112 rfl (J_iload_n dX4_read_114 rfl (J_iload_n dX4_read_115 rfl (J_callV (a1 := (0, 0)) (a2 := (0, 0)) (mm' := mX4_addAct) (S := []) [jI x4, jI x2, jI x2] md_X4_addAct im_X4_addAct se_X4_addAct dX4_read_116 wm_X4_35 jcl_X4.1 rfl g_6 rfl rfl (Nat.le_of_ble_eq_true rfl) (Nat.le_of_ble_eq_true rfl) rfl k1)))))
theorem b_X4_read_119 {l : Launch} {z d : Nat} {X : jX} {M : Nat → Int → Int} {Q : Option jV → jM → Prop} {x1 : Int} {x2 : Int} {x3 : Int} {x4 : Int}   (k1 : J l z X d mX4_read (0, 0) 173 [jR 6, jI 0, jI x2, jI x3, jI x4] [] (jG, M) Q) : J l z X d mX4_read (0, 0) 119 [jR 6, jI x1, jI x2, jI x3, jI x4] [] (jG, M) Q :=
  (J_iconst dX4_read_119 jc_0 (J_istore_n dX4_read_120 (Nat.le_of_ble_eq_true rfl) (J_goto dX4_read_121 (tgt := 173) (by decide) k1)))
theorem b_X4_read_124 {l : Launch} {z d : Nat} {X : jX} {M : Nat → Int → Int} {Q : Option jV → jM → Prop} {x1 : Int} {x2 : Int} {x3 : Int} {x4 : Int}   (k1 : x1 ≠ 1 → J l z X d mX4_read (0, 0) 141 [jR 6, jI x1, jI x2, jI x3, jI x4] [] (jG, M) Q) (k2 : x1 = 1 → x4 ≠ 62 → J l z X d mX4_read (0, 0) 141 [jR 6, jI x1, jI x2, jI x3, jI x4] [] (jG, M) Q) (k3 : x1 = 1 → x4 = 62 → J l z X d mX4_read (0, 0) 173 [jR 6, jI 2, jI x2, jI x3, jI x4] [] (jG, M) Q) : J l z X d mX4_read (0, 0) 124 [jR 6, jI x1, jI x2, jI x3, jI x4] [] (jG, M) Q :=
  (J_iload_n dX4_read_124 rfl (J_iconst dX4_read_125 jc_1 (J_icmp_ne dX4_read_126 (tgt := 141) (by decide) (fun c1 => (k1 c1)) (fun c1 => (J_iload dX4_read_129 rfl (J_bipush dX4_read_131 jc_62 jb_62 (J_icmp_ne dX4_read_133 (tgt := 141) (by decide) (fun c2 => (k2 c1 c2)) (fun c2 => (J_iconst dX4_read_136 jc_2 (J_istore_n dX4_read_137 (Nat.le_of_ble_eq_true rfl) (J_goto dX4_read_138 (tgt := 173) (by decide) (k3 c1 c2))))))))))))
theorem b_X4_read_141 {l : Launch} {z d : Nat} {X : jX} {M : Nat → Int → Int} {Q : Option jV → jM → Prop} {x1 : Int} {x2 : Int} {x3 : Int} {x4 : Int}   (k1 : x1 ≠ 2 → Q (some (jI x3)) (jG, M)) (k2 : x1 = 2 → J l z X d mX4_isLetter (0, 0) 0 [jI x4] [] (jG, M) (fun r μ => J l z X (d + 1) mX4_read (0, 0) 151 [jR 6, jI x1, jI x2, jI x3, jI x4] (r.toList ++ []) μ Q)) : J l z X (d + 1) mX4_read (0, 0) 141 [jR 6, jI x1, jI x2, jI x3, jI x4] [] (jG, M) Q :=
  (J_iload_n dX4_read_141 rfl (J_iconst dX4_read_142 jc_2 (J_icmp_ne dX4_read_143 (tgt := 171) (by decide) (fun c1 => (J_iload_n dX4_read_171 rfl (J_iret dX4_read_172 rfl (k1 c1)))) (fun c1 => (J_iload dX4_read_146 rfl (J_callS (a1 := (0, 0)) (a2 := (0, 0)) (mm' := mX4_isLetter) (S := []) [jI x4] md_X4_isLetter is_X4_isLetter dX4_read_148 wm_X4_31 rfl rfl (Nat.le_of_ble_eq_true rfl) (Nat.le_of_ble_eq_true rfl) rfl (k2 c1)))))))
theorem b_X4_read_151 {l : Launch} {z d : Nat} {X : jX} {M : Nat → Int → Int} {Q : Option jV → jM → Prop} {x1 : Int} {x2 : Int} {x3 : Int} {x4 : Int} {t0 : Int}  (s1 : t0 ≠ 0 → jIn (x4 - 65)) (k1 : t0 = 0 → Q (some (jI x3)) (jG, M)) (k2 : t0 ≠ 0 → J l z X d mX4_addAct (0, 0) 0 [jR 6, jI 62, jI x2, jI (x4 - 65)] [] (jG, M) (fun r μ => J l z X (d + 1) mX4_read (0, 0) 166 [jR 6, jI x1, jI x2, jI x3, jI x4] (r.toList ++ []) μ Q)) : J l z X (d + 1) mX4_read (0, 0) 151 [jR 6, jI x1, jI x2, jI x3, jI x4] [jI t0] (jG, M) Q :=
  (J_if_eq dX4_read_151 (tgt := 171) (by decide) (fun c1 => (J_iload_n dX4_read_171 rfl (J_iret dX4_read_172 rfl (k1 c1)))) (fun c1 => (J_aload_n dX4_read_154 rfl (J_bipush dX4_read_155 jc_62 jb_62 (J_iload_n dX4_read_157 rfl (J_iload dX4_read_158 rfl (J_bipush dX4_read_160 jc_65 jb_65 (J_isub dX4_read_162 (s1 c1) (J_callV (a1 := (0, 0)) (a2 := (0, 0)) (mm' := mX4_addAct) (S := []) [jI 62, jI x2, jI (x4 - 65)] md_X4_addAct im_X4_addAct se_X4_addAct dX4_read_163 wm_X4_35 jcl_X4.1 rfl g_6 rfl rfl (Nat.le_of_ble_eq_true rfl) (Nat.le_of_ble_eq_true rfl) rfl (k2 c1))))))))))
theorem b_X4_read_166 {l : Launch} {z d : Nat} {X : jX} {M : Nat → Int → Int} {Q : Option jV → jM → Prop} {x1 : Int} {x2 : Int} {x3 : Int} {x4 : Int}   (k1 : J l z X d mX4_read (0, 0) 173 [jR 6, jI 0, jI x2, jI x3, jI x4] [] (jG, M) Q) : J l z X d mX4_read (0, 0) 166 [jR 6, jI x1, jI x2, jI x3, jI x4] [] (jG, M) Q :=
  (J_iconst dX4_read_166 jc_0 (J_istore_n dX4_read_167 (Nat.le_of_ble_eq_true rfl) (J_goto dX4_read_168 (tgt := 173) (by decide) k1)))
theorem b_X4_read_173 {l : Launch} {z d : Nat} {X : jX} {M : Nat → Int → Int} {Q : Option jV → jM → Prop} {x1 : Int} {x2 : Int} {x3 : Int} {x4 : Int}  (s1 : jIn (x3 + 1)) (k1 : J l z X d mX4_read (0, 0) 11 [jR 6, jI x1, jI x2, jI (x3 + 1), jI x4] [] (jG, M) Q) : J l z X d mX4_read (0, 0) 173 [jR 6, jI x1, jI x2, jI x3, jI x4] [] (jG, M) Q :=
  (J_iinc dX4_read_173 rfl jc_1 s1 (J_goto dX4_read_176 (tgt := 11) (by decide) k1))
theorem b_X4_read_179 {l : Launch} {z d : Nat} {X : jX} {M : Nat → Int → Int} {Q : Option jV → jM → Prop} {x1 : Int} {x2 : Int} {x3 : Int}   (k1 : x1 ≠ 0 → Q (some (jI (M 6 4))) (jG, M)) (k2 : x1 = 0 → Q (some (jI (-6))) (jG, M)) : J l z X d mX4_read (0, 0) 179 [jR 6, jI x1, jI x2, jI x3, jN] [] (jG, M) Q :=
  (J_iload_n dX4_read_179 rfl (J_if_ne dX4_read_180 (tgt := 188) (by decide) (fun c1 => (J_aload_n dX4_read_188 rfl (J_getI (k := 4) (kz := 4) jcl_X4 dX4_read_189 wf_X4_24 g_6 (Nat.le_of_ble_eq_true rfl) rfl rfl (J_iret dX4_read_192 rfl (k1 c1))))) (fun c1 => (J_bipush dX4_read_183 jc_m6 jb_m6 (J_goto dX4_read_185 (tgt := 192) (by decide) (J_iret dX4_read_192 rfl (k2 c1)))))))
theorem b_X4_isLetter_0 {l : Launch} {z d : Nat} {X : jX} {M : Nat → Int → Int} {Q : Option jV → jM → Prop} {x0 : Int}   (k1 : x0 < 65 → Q (some (jI 0)) (jG, M)) (k2 : 65 ≤ x0 → 71 ≤ x0 → Q (some (jI 0)) (jG, M)) (k3 : 65 ≤ x0 → x0 < 71 → Q (some (jI 1)) (jG, M)) : J l z X d mX4_isLetter (0, 0) 0 [jI x0] [] (jG, M) Q :=
  (J_iload_n dX4_isLetter_0 rfl (J_bipush dX4_isLetter_1 jc_65 jb_65 (J_icmp_lt dX4_isLetter_3 (tgt := 16) (by decide) (fun c1 => (J_iconst dX4_isLetter_16 jc_0 (J_zret dX4_isLetter_17 rfl (Or.inl rfl) (k1 c1)))) (fun c1 => (J_iload_n dX4_isLetter_6 rfl (J_bipush dX4_isLetter_7 jc_71 jb_71 (J_icmp_ge dX4_isLetter_9 (tgt := 16) (by decide) (fun c2 => (J_iconst dX4_isLetter_16 jc_0 (J_zret dX4_isLetter_17 rfl (Or.inl rfl) (k2 c1 c2)))) (fun c2 => (J_iconst dX4_isLetter_12 jc_1 (J_goto dX4_isLetter_13 (tgt := 17) (by decide) (J_zret dX4_isLetter_17 rfl (Or.inr rfl) (k3 c1 c2))))))))))))
theorem b_X4_addAct_0 {l : Launch} {z d : Nat} {X : jX} {M : Nat → Int → Int} {Q : Option jV → jM → Prop} {x1 : Int} {x2 : Int} {x3 : Int}  (s1 : 0 ≤ (M 6 5) → (M 6 5) < 60 → 0 ≤ (M 6 5)) (s2 : 0 ≤ (M 6 5) → (M 6 5) < 60 → (M 6 5) < 60) (s3 : 0 ≤ (M 6 5) → (M 6 5) < 60 → 0 ≤ ((jupd M 8 (M 6 5) x1) 6 5)) (s4 : 0 ≤ (M 6 5) → (M 6 5) < 60 → ((jupd M 8 (M 6 5) x1) 6 5) < 60) (s5 : 0 ≤ (M 6 5) → (M 6 5) < 60 → 0 ≤ ((jupd (jupd M 8 (M 6 5) x1) 9 ((jupd M 8 (M 6 5) x1) 6 5) x2) 6 5)) (s6 : 0 ≤ (M 6 5) → (M 6 5) < 60 → ((jupd (jupd M 8 (M 6 5) x1) 9 ((jupd M 8 (M 6 5) x1) 6 5) x2) 6 5) < 60) (s7 : 0 ≤ (M 6 5) → (M 6 5) < 60 → jIn (((jupd (jupd (jupd M 8 (M 6 5) x1) 9 ((jupd M 8 (M 6 5) x1) 6 5) x2) 10 ((jupd (jupd M 8 (M 6 5) x1) 9 ((jupd M 8 (M 6 5) x1) 6 5) x2) 6 5) x3) 6 5) + 1)) (k1 : (M 6 5) < 0 → Q none (jG, M)) (k2 : 0 ≤ (M 6 5) → 60 ≤ (M 6 5) → Q none (jG, M)) (k3 : 0 ≤ (M 6 5) → (M 6 5) < 60 → Q none (jG, (jupd (jupd (jupd (jupd M 8 (M 6 5) x1) 9 ((jupd M 8 (M 6 5) x1) 6 5) x2) 10 ((jupd (jupd M 8 (M 6 5) x1) 9 ((jupd M 8 (M 6 5) x1) 6 5) x2) 6 5) x3) 6 5 (((jupd (jupd (jupd M 8 (M 6 5) x1) 9 ((jupd M 8 (M 6 5) x1) 6 5) x2) 10 ((jupd (jupd M 8 (M 6 5) x1) 9 ((jupd M 8 (M 6 5) x1) 6 5) x2) 6 5) x3) 6 5) + 1)))) : J l z X d mX4_addAct (0, 0) 0 [jR 6, jI x1, jI x2, jI x3] [] (jG, M) Q :=
  (J_aload_n dX4_addAct_0 rfl (J_getI (k := 5) (kz := 5) jcl_X4 dX4_addAct_1 wf_X4_28 g_6 (Nat.le_of_ble_eq_true rfl) rfl rfl (J_if_lt dX4_addAct_4 (tgt := 56) (by decide) (fun c1 => (J_vret dX4_addAct_56 rfl (k1 c1))) (fun c1 => (J_aload_n dX4_addAct_7 rfl (J_getI (k := 5) (kz := 5) jcl_X4 dX4_addAct_8 wf_X4_28 g_6 (Nat.le_of_ble_eq_true rfl) rfl rfl (J_bipush dX4_addAct_11 jc_60 jb_60 (J_icmp_ge dX4_addAct_13 (tgt := 56) (by decide) (fun c2 => (J_vret dX4_addAct_56 rfl (k2 c1 c2))) (fun c2 => (J_aload_n dX4_addAct_16 rfl (J_getR (k := 1) jcl_X4 dX4_addAct_17 wf_X4_15 g_6 (Nat.le_of_ble_eq_true rfl) rfl rfl (J_aload_n dX4_addAct_20 rfl (J_getI (k := 5) (kz := 5) jcl_X4 dX4_addAct_21 wf_X4_28 g_6 (Nat.le_of_ble_eq_true rfl) rfl rfl (J_iload_n dX4_addAct_24 rfl (J_iast dX4_addAct_25 g_8 (s1 c1 c2) (s2 c1 c2) (J_aload_n dX4_addAct_26 rfl (J_getR (k := 2) jcl_X4 dX4_addAct_27 wf_X4_18 g_6 (Nat.le_of_ble_eq_true rfl) rfl rfl (J_aload_n dX4_addAct_30 rfl (J_getI (k := 5) (kz := 5) jcl_X4 dX4_addAct_31 wf_X4_28 g_6 (Nat.le_of_ble_eq_true rfl) rfl rfl (J_iload_n dX4_addAct_34 rfl (J_iast dX4_addAct_35 g_9 (s3 c1 c2) (s4 c1 c2) (J_aload_n dX4_addAct_36 rfl (J_getR (k := 3) jcl_X4 dX4_addAct_37 wf_X4_21 g_6 (Nat.le_of_ble_eq_true rfl) rfl rfl (J_aload_n dX4_addAct_40 rfl (J_getI (k := 5) (kz := 5) jcl_X4 dX4_addAct_41 wf_X4_28 g_6 (Nat.le_of_ble_eq_true rfl) rfl rfl (J_iload_n dX4_addAct_44 rfl (J_iast dX4_addAct_45 g_10 (s5 c1 c2) (s6 c1 c2) (J_aload_n dX4_addAct_46 rfl (J_dupR dX4_addAct_47 (J_getI (k := 5) (kz := 5) jcl_X4 dX4_addAct_48 wf_X4_28 g_6 (Nat.le_of_ble_eq_true rfl) rfl rfl (J_iconst dX4_addAct_51 jc_1 (J_iadd dX4_addAct_52 (s7 c1 c2) (J_putI (k := 5) (kz := 5) jcl_X4 dX4_addAct_53 wf_X4_28 g_6 (Nat.le_of_ble_eq_true rfl) rfl rfl rfl (J_vret dX4_addAct_56 rfl (k3 c1 c2)))))))))))))))))))))))))))))))))))
