theorem dX0_init_0 : decode cX0_init 0 = .ok (.aload_n 0, 1) := by decide +kernel
theorem dX0_init_1 : decode cX0_init 1 = .ok (.invokespecial 3, 3) := by decide +kernel
theorem dX0_init_4 : decode cX0_init 4 = .ok (.aload_n 0, 1) := by decide +kernel
theorem dX0_init_5 : decode cX0_init 5 = .ok (.new 9, 3) := by decide +kernel
theorem dX0_init_8 : decode cX0_init 8 = .ok (.dup, 1) := by decide +kernel
theorem dX0_init_9 : decode cX0_init 9 = .ok (.invokespecial 11, 3) := by decide +kernel
theorem dX0_init_12 : decode cX0_init 12 = .ok (.putfield 12, 3) := by decide +kernel
theorem dX0_init_15 : decode cX0_init 15 = .ok (.aload_n 0, 1) := by decide +kernel
theorem dX0_init_16 : decode cX0_init 16 = .ok (.bipush 6, 2) := by decide +kernel
theorem dX0_init_18 : decode cX0_init 18 = .ok (.newarray .int, 2) := by decide +kernel
theorem dX0_init_20 : decode cX0_init 20 = .ok (.putfield 18, 3) := by decide +kernel
theorem dX0_init_23 : decode cX0_init 23 = .ok (.aload_n 0, 1) := by decide +kernel
theorem dX0_init_24 : decode cX0_init 24 = .ok (.bipush 60, 2) := by decide +kernel
theorem dX0_init_26 : decode cX0_init 26 = .ok (.newarray .int, 2) := by decide +kernel
theorem dX0_init_28 : decode cX0_init 28 = .ok (.putfield 24, 3) := by decide +kernel
theorem dX0_init_31 : decode cX0_init 31 = .ok (.return_, 1) := by decide +kernel
theorem dX0_live_0 : decode cX0_live 0 = .ok (.aload_n 0, 1) := by decide +kernel
theorem dX0_live_1 : decode cX0_live 1 = .ok (.getfield 12, 3) := by decide +kernel
theorem dX0_live_4 : decode cX0_live 4 = .ok (.aload_n 1, 1) := by decide +kernel
theorem dX0_live_5 : decode cX0_live 5 = .ok (.invokevirtual 27, 3) := by decide +kernel
theorem dX0_live_8 : decode cX0_live 8 = .ok (.aload_n 0, 1) := by decide +kernel
theorem dX0_live_9 : decode cX0_live 9 = .ok (.iconst 0, 1) := by decide +kernel
theorem dX0_live_10 : decode cX0_live 10 = .ok (.putfield 31, 3) := by decide +kernel
theorem dX0_live_13 : decode cX0_live 13 = .ok (.aload_n 0, 1) := by decide +kernel
theorem dX0_live_14 : decode cX0_live 14 = .ok (.bipush (-6), 2) := by decide +kernel
theorem dX0_live_16 : decode cX0_live 16 = .ok (.putfield 35, 3) := by decide +kernel
theorem dX0_live_19 : decode cX0_live 19 = .ok (.aload_n 0, 1) := by decide +kernel
theorem dX0_live_20 : decode cX0_live 20 = .ok (.bipush (-6), 2) := by decide +kernel
theorem dX0_live_22 : decode cX0_live 22 = .ok (.putfield 38, 3) := by decide +kernel
theorem dX0_live_25 : decode cX0_live 25 = .ok (.aload_n 0, 1) := by decide +kernel
theorem dX0_live_26 : decode cX0_live 26 = .ok (.bipush (-6), 2) := by decide +kernel
theorem dX0_live_28 : decode cX0_live 28 = .ok (.putfield 41, 3) := by decide +kernel
theorem dX0_live_31 : decode cX0_live 31 = .ok (.aload_n 0, 1) := by decide +kernel
theorem dX0_live_32 : decode cX0_live 32 = .ok (.bipush (-6), 2) := by decide +kernel
theorem dX0_live_34 : decode cX0_live 34 = .ok (.putfield 44, 3) := by decide +kernel
theorem dX0_live_37 : decode cX0_live 37 = .ok (.iconst 0, 1) := by decide +kernel
theorem dX0_live_38 : decode cX0_live 38 = .ok (.istore_n 3, 1) := by decide +kernel
theorem dX0_live_39 : decode cX0_live 39 = .ok (.iload_n 3, 1) := by decide +kernel
theorem dX0_live_40 : decode cX0_live 40 = .ok (.aload_n 2, 1) := by decide +kernel
theorem dX0_live_41 : decode cX0_live 41 = .ok (.getfield 47, 3) := by decide +kernel
theorem dX0_live_44 : decode cX0_live 44 = .ok (.if_icmp .ge 120, 3) := by decide +kernel
theorem dX0_live_47 : decode cX0_live 47 = .ok (.iload_n 3, 1) := by decide +kernel
theorem dX0_live_48 : decode cX0_live 48 = .ok (.bipush 60, 2) := by decide +kernel
theorem dX0_live_50 : decode cX0_live 50 = .ok (.if_icmp .ge 114, 3) := by decide +kernel
theorem dX0_live_53 : decode cX0_live 53 = .ok (.aload_n 2, 1) := by decide +kernel
theorem dX0_live_54 : decode cX0_live 54 = .ok (.getfield 50, 3) := by decide +kernel
theorem dX0_live_57 : decode cX0_live 57 = .ok (.iload_n 3, 1) := by decide +kernel
theorem dX0_live_58 : decode cX0_live 58 = .ok (.iaload, 1) := by decide +kernel
theorem dX0_live_59 : decode cX0_live 59 = .ok (.istore 4, 2) := by decide +kernel
theorem dX0_live_61 : decode cX0_live 61 = .ok (.aload_n 0, 1) := by decide +kernel
theorem dX0_live_62 : decode cX0_live 62 = .ok (.getfield 12, 3) := by decide +kernel
theorem dX0_live_65 : decode cX0_live 65 = .ok (.iload 4, 2) := by decide +kernel
theorem dX0_live_67 : decode cX0_live 67 = .ok (.aload_n 2, 1) := by decide +kernel
theorem dX0_live_68 : decode cX0_live 68 = .ok (.getfield 53, 3) := by decide +kernel
theorem dX0_live_71 : decode cX0_live 71 = .ok (.iload_n 3, 1) := by decide +kernel
theorem dX0_live_72 : decode cX0_live 72 = .ok (.iaload, 1) := by decide +kernel
theorem dX0_live_73 : decode cX0_live 73 = .ok (.aload_n 2, 1) := by decide +kernel
theorem dX0_live_74 : decode cX0_live 74 = .ok (.getfield 56, 3) := by decide +kernel
theorem dX0_live_77 : decode cX0_live 77 = .ok (.iload_n 3, 1) := by decide +kernel
theorem dX0_live_78 : decode cX0_live 78 = .ok (.iaload, 1) := by decide +kernel
theorem dX0_live_79 : decode cX0_live 79 = .ok (.invokevirtual 59, 3) := by decide +kernel
theorem dX0_live_82 : decode cX0_live 82 = .ok (.istore 5, 2) := by decide +kernel
theorem dX0_live_84 : decode cX0_live 84 = .ok (.iload 5, 2) := by decide +kernel
theorem dX0_live_86 : decode cX0_live 86 = .ok (.ifCond .eq 15, 3) := by decide +kernel
theorem dX0_live_89 : decode cX0_live 89 = .ok (.aload_n 0, 1) := by decide +kernel
theorem dX0_live_90 : decode cX0_live 90 = .ok (.iload_n 3, 1) := by decide +kernel
theorem dX0_live_91 : decode cX0_live 91 = .ok (.putfield 35, 3) := by decide +kernel
theorem dX0_live_94 : decode cX0_live 94 = .ok (.aload_n 0, 1) := by decide +kernel
theorem dX0_live_95 : decode cX0_live 95 = .ok (.iload 5, 2) := by decide +kernel
theorem dX0_live_97 : decode cX0_live 97 = .ok (.putfield 38, 3) := by decide +kernel
theorem dX0_live_100 : decode cX0_live 100 = .ok (.return_, 1) := by decide +kernel
theorem dX0_live_101 : decode cX0_live 101 = .ok (.iload 4, 2) := by decide +kernel
theorem dX0_live_103 : decode cX0_live 103 = .ok (.bipush 46, 2) := by decide +kernel
theorem dX0_live_105 : decode cX0_live 105 = .ok (.if_icmp .ne 21, 3) := by decide +kernel
theorem dX0_live_108 : decode cX0_live 108 = .ok (.aload_n 0, 1) := by decide +kernel
theorem dX0_live_109 : decode cX0_live 109 = .ok (.getfield 12, 3) := by decide +kernel
theorem dX0_live_112 : decode cX0_live 112 = .ok (.getfield 63, 3) := by decide +kernel
theorem dX0_live_115 : decode cX0_live 115 = .ok (.iconst 0, 1) := by decide +kernel
theorem dX0_live_116 : decode cX0_live 116 = .ok (.aload_n 0, 1) := by decide +kernel
theorem dX0_live_117 : decode cX0_live 117 = .ok (.getfield 18, 3) := by decide +kernel
theorem dX0_live_120 : decode cX0_live 120 = .ok (.iconst 0, 1) := by decide +kernel
theorem dX0_live_121 : decode cX0_live 121 = .ok (.bipush 6, 2) := by decide +kernel
theorem dX0_live_123 : decode cX0_live 123 = .ok (.invokestatic 66, 3) := by decide +kernel
theorem dX0_live_126 : decode cX0_live 126 = .ok (.aload_n 0, 1) := by decide +kernel
theorem dX0_live_127 : decode cX0_live 127 = .ok (.getfield 12, 3) := by decide +kernel
theorem dX0_live_130 : decode cX0_live 130 = .ok (.iload 4, 2) := by decide +kernel
theorem dX0_live_132 : decode cX0_live 132 = .ok (.aload_n 2, 1) := by decide +kernel
theorem dX0_live_133 : decode cX0_live 133 = .ok (.getfield 53, 3) := by decide +kernel
theorem dX0_live_136 : decode cX0_live 136 = .ok (.iload_n 3, 1) := by decide +kernel
theorem dX0_live_137 : decode cX0_live 137 = .ok (.iaload, 1) := by decide +kernel
theorem dX0_live_138 : decode cX0_live 138 = .ok (.aload_n 2, 1) := by decide +kernel
theorem dX0_live_139 : decode cX0_live 139 = .ok (.getfield 56, 3) := by decide +kernel
theorem dX0_live_142 : decode cX0_live 142 = .ok (.iload_n 3, 1) := by decide +kernel
theorem dX0_live_143 : decode cX0_live 143 = .ok (.iaload, 1) := by decide +kernel
theorem dX0_live_144 : decode cX0_live 144 = .ok (.invokevirtual 72, 3) := by decide +kernel
theorem dX0_live_147 : decode cX0_live 147 = .ok (.iload 4, 2) := by decide +kernel
theorem dX0_live_149 : decode cX0_live 149 = .ok (.bipush 46, 2) := by decide +kernel
theorem dX0_live_151 : decode cX0_live 151 = .ok (.if_icmp .ne 7, 3) := by decide +kernel
theorem dX0_live_154 : decode cX0_live 154 = .ok (.aload_n 0, 1) := by decide +kernel
theorem dX0_live_155 : decode cX0_live 155 = .ok (.invokevirtual 76, 3) := by decide +kernel
theorem dX0_live_158 : decode cX0_live 158 = .ok (.iinc 3 1, 3) := by decide +kernel
theorem dX0_live_161 : decode cX0_live 161 = .ok (.goto (-122), 3) := by decide +kernel
theorem dX0_live_164 : decode cX0_live 164 = .ok (.return_, 1) := by decide +kernel
theorem dX0_tellMorning_0 : decode cX0_tellMorning 0 = .ok (.aload_n 0, 1) := by decide +kernel
theorem dX0_tellMorning_1 : decode cX0_tellMorning 1 = .ok (.getfield 31, 3) := by decide +kernel
theorem dX0_tellMorning_4 : decode cX0_tellMorning 4 = .ok (.ifCond .lt 15, 3) := by decide +kernel
theorem dX0_tellMorning_7 : decode cX0_tellMorning 7 = .ok (.aload_n 0, 1) := by decide +kernel
theorem dX0_tellMorning_8 : decode cX0_tellMorning 8 = .ok (.getfield 31, 3) := by decide +kernel
theorem dX0_tellMorning_11 : decode cX0_tellMorning 11 = .ok (.aload_n 0, 1) := by decide +kernel
theorem dX0_tellMorning_12 : decode cX0_tellMorning 12 = .ok (.getfield 24, 3) := by decide +kernel
theorem dX0_tellMorning_15 : decode cX0_tellMorning 15 = .ok (.arraylength, 1) := by decide +kernel
theorem dX0_tellMorning_16 : decode cX0_tellMorning 16 = .ok (.if_icmp .lt 4, 3) := by decide +kernel
theorem dX0_tellMorning_19 : decode cX0_tellMorning 19 = .ok (.return_, 1) := by decide +kernel
theorem dX0_tellMorning_20 : decode cX0_tellMorning 20 = .ok (.aload_n 0, 1) := by decide +kernel
theorem dX0_tellMorning_21 : decode cX0_tellMorning 21 = .ok (.getfield 44, 3) := by decide +kernel
theorem dX0_tellMorning_24 : decode cX0_tellMorning 24 = .ok (.bipush (-6), 2) := by decide +kernel
theorem dX0_tellMorning_26 : decode cX0_tellMorning 26 = .ok (.if_icmp .ne 33, 3) := by decide +kernel
theorem dX0_tellMorning_29 : decode cX0_tellMorning 29 = .ok (.aload_n 0, 1) := by decide +kernel
theorem dX0_tellMorning_30 : decode cX0_tellMorning 30 = .ok (.aload_n 0, 1) := by decide +kernel
theorem dX0_tellMorning_31 : decode cX0_tellMorning 31 = .ok (.invokevirtual 79, 3) := by decide +kernel
theorem dX0_tellMorning_34 : decode cX0_tellMorning 34 = .ok (.putfield 44, 3) := by decide +kernel
theorem dX0_tellMorning_37 : decode cX0_tellMorning 37 = .ok (.aload_n 0, 1) := by decide +kernel
theorem dX0_tellMorning_38 : decode cX0_tellMorning 38 = .ok (.aload_n 0, 1) := by decide +kernel
theorem dX0_tellMorning_39 : decode cX0_tellMorning 39 = .ok (.getfield 44, 3) := by decide +kernel
theorem dX0_tellMorning_42 : decode cX0_tellMorning 42 = .ok (.bipush (-6), 2) := by decide +kernel
theorem dX0_tellMorning_44 : decode cX0_tellMorning 44 = .ok (.if_icmp .ne 8, 3) := by decide +kernel
theorem dX0_tellMorning_47 : decode cX0_tellMorning 47 = .ok (.bipush (-6), 2) := by decide +kernel
theorem dX0_tellMorning_49 : decode cX0_tellMorning 49 = .ok (.goto 7, 3) := by decide +kernel
theorem dX0_tellMorning_52 : decode cX0_tellMorning 52 = .ok (.aload_n 0, 1) := by decide +kernel
theorem dX0_tellMorning_53 : decode cX0_tellMorning 53 = .ok (.getfield 31, 3) := by decide +kernel
theorem dX0_tellMorning_56 : decode cX0_tellMorning 56 = .ok (.putfield 41, 3) := by decide +kernel
theorem dX0_tellMorning_59 : decode cX0_tellMorning 59 = .ok (.aload_n 0, 1) := by decide +kernel
theorem dX0_tellMorning_60 : decode cX0_tellMorning 60 = .ok (.getfield 24, 3) := by decide +kernel
theorem dX0_tellMorning_63 : decode cX0_tellMorning 63 = .ok (.aload_n 0, 1) := by decide +kernel
theorem dX0_tellMorning_64 : decode cX0_tellMorning 64 = .ok (.getfield 31, 3) := by decide +kernel
theorem dX0_tellMorning_67 : decode cX0_tellMorning 67 = .ok (.aload_n 0, 1) := by decide +kernel
theorem dX0_tellMorning_68 : decode cX0_tellMorning 68 = .ok (.getfield 12, 3) := by decide +kernel
theorem dX0_tellMorning_71 : decode cX0_tellMorning 71 = .ok (.invokevirtual 83, 3) := by decide +kernel
theorem dX0_tellMorning_74 : decode cX0_tellMorning 74 = .ok (.iastore, 1) := by decide +kernel
theorem dX0_tellMorning_75 : decode cX0_tellMorning 75 = .ok (.aload_n 0, 1) := by decide +kernel
theorem dX0_tellMorning_76 : decode cX0_tellMorning 76 = .ok (.dup, 1) := by decide +kernel
theorem dX0_tellMorning_77 : decode cX0_tellMorning 77 = .ok (.getfield 31, 3) := by decide +kernel
theorem dX0_tellMorning_80 : decode cX0_tellMorning 80 = .ok (.iconst 1, 1) := by decide +kernel
theorem dX0_tellMorning_81 : decode cX0_tellMorning 81 = .ok (.iadd, 1) := by decide +kernel
theorem dX0_tellMorning_82 : decode cX0_tellMorning 82 = .ok (.putfield 31, 3) := by decide +kernel
theorem dX0_tellMorning_85 : decode cX0_tellMorning 85 = .ok (.return_, 1) := by decide +kernel
theorem dX0_leastPass_0 : decode cX0_leastPass 0 = .ok (.iconst 0, 1) := by decide +kernel
theorem dX0_leastPass_1 : decode cX0_leastPass 1 = .ok (.istore_n 1, 1) := by decide +kernel
theorem dX0_leastPass_2 : decode cX0_leastPass 2 = .ok (.iload_n 1, 1) := by decide +kernel
theorem dX0_leastPass_3 : decode cX0_leastPass 3 = .ok (.bipush 6, 2) := by decide +kernel
theorem dX0_leastPass_5 : decode cX0_leastPass 5 = .ok (.if_icmp .ge 63, 3) := by decide +kernel
theorem dX0_leastPass_8 : decode cX0_leastPass 8 = .ok (.iload_n 1, 1) := by decide +kernel
theorem dX0_leastPass_9 : decode cX0_leastPass 9 = .ok (.iconst 1, 1) := by decide +kernel
theorem dX0_leastPass_10 : decode cX0_leastPass 10 = .ok (.iadd, 1) := by decide +kernel
theorem dX0_leastPass_11 : decode cX0_leastPass 11 = .ok (.istore_n 2, 1) := by decide +kernel
theorem dX0_leastPass_12 : decode cX0_leastPass 12 = .ok (.iload_n 2, 1) := by decide +kernel
theorem dX0_leastPass_13 : decode cX0_leastPass 13 = .ok (.bipush 6, 2) := by decide +kernel
theorem dX0_leastPass_15 : decode cX0_leastPass 15 = .ok (.if_icmp .ge 47, 3) := by decide +kernel
theorem dX0_leastPass_18 : decode cX0_leastPass 18 = .ok (.aload_n 0, 1) := by decide +kernel
theorem dX0_leastPass_19 : decode cX0_leastPass 19 = .ok (.getfield 12, 3) := by decide +kernel
theorem dX0_leastPass_22 : decode cX0_leastPass 22 = .ok (.iload_n 1, 1) := by decide +kernel
theorem dX0_leastPass_23 : decode cX0_leastPass 23 = .ok (.invokevirtual 86, 3) := by decide +kernel
theorem dX0_leastPass_26 : decode cX0_leastPass 26 = .ok (.ifCond .eq 30, 3) := by decide +kernel
theorem dX0_leastPass_29 : decode cX0_leastPass 29 = .ok (.aload_n 0, 1) := by decide +kernel
theorem dX0_leastPass_30 : decode cX0_leastPass 30 = .ok (.getfield 12, 3) := by decide +kernel
theorem dX0_leastPass_33 : decode cX0_leastPass 33 = .ok (.iload_n 2, 1) := by decide +kernel
theorem dX0_leastPass_34 : decode cX0_leastPass 34 = .ok (.invokevirtual 86, 3) := by decide +kernel
theorem dX0_leastPass_37 : decode cX0_leastPass 37 = .ok (.ifCond .eq 19, 3) := by decide +kernel
theorem dX0_leastPass_40 : decode cX0_leastPass 40 = .ok (.aload_n 0, 1) := by decide +kernel
theorem dX0_leastPass_41 : decode cX0_leastPass 41 = .ok (.iload_n 1, 1) := by decide +kernel
theorem dX0_leastPass_42 : decode cX0_leastPass 42 = .ok (.iload_n 2, 1) := by decide +kernel
theorem dX0_leastPass_43 : decode cX0_leastPass 43 = .ok (.invokevirtual 90, 3) := by decide +kernel
theorem dX0_leastPass_46 : decode cX0_leastPass 46 = .ok (.ifCond .eq 10, 3) := by decide +kernel
theorem dX0_leastPass_49 : decode cX0_leastPass 49 = .ok (.bipush 10, 2) := by decide +kernel
theorem dX0_leastPass_51 : decode cX0_leastPass 51 = .ok (.iload_n 1, 1) := by decide +kernel
theorem dX0_leastPass_52 : decode cX0_leastPass 52 = .ok (.imul, 1) := by decide +kernel
theorem dX0_leastPass_53 : decode cX0_leastPass 53 = .ok (.iload_n 2, 1) := by decide +kernel
theorem dX0_leastPass_54 : decode cX0_leastPass 54 = .ok (.iadd, 1) := by decide +kernel
theorem dX0_leastPass_55 : decode cX0_leastPass 55 = .ok (.ireturn, 1) := by decide +kernel
theorem dX0_leastPass_56 : decode cX0_leastPass 56 = .ok (.iinc 2 1, 3) := by decide +kernel
theorem dX0_leastPass_59 : decode cX0_leastPass 59 = .ok (.goto (-47), 3) := by decide +kernel
theorem dX0_leastPass_62 : decode cX0_leastPass 62 = .ok (.iinc 1 1, 3) := by decide +kernel
theorem dX0_leastPass_65 : decode cX0_leastPass 65 = .ok (.goto (-63), 3) := by decide +kernel
theorem dX0_leastPass_68 : decode cX0_leastPass 68 = .ok (.bipush (-6), 2) := by decide +kernel
theorem dX0_leastPass_70 : decode cX0_leastPass 70 = .ok (.ireturn, 1) := by decide +kernel
theorem dX0_hasPassed_0 : decode cX0_hasPassed 0 = .ok (.aload_n 0, 1) := by decide +kernel
theorem dX0_hasPassed_1 : decode cX0_hasPassed 1 = .ok (.getfield 18, 3) := by decide +kernel
theorem dX0_hasPassed_4 : decode cX0_hasPassed 4 = .ok (.iload_n 1, 1) := by decide +kernel
theorem dX0_hasPassed_5 : decode cX0_hasPassed 5 = .ok (.iaload, 1) := by decide +kernel
theorem dX0_hasPassed_6 : decode cX0_hasPassed 6 = .ok (.aload_n 0, 1) := by decide +kernel
theorem dX0_hasPassed_7 : decode cX0_hasPassed 7 = .ok (.getfield 18, 3) := by decide +kernel
theorem dX0_hasPassed_10 : decode cX0_hasPassed 10 = .ok (.iload_n 2, 1) := by decide +kernel
theorem dX0_hasPassed_11 : decode cX0_hasPassed 11 = .ok (.iaload, 1) := by decide +kernel
theorem dX0_hasPassed_12 : decode cX0_hasPassed 12 = .ok (.invokestatic 94, 3) := by decide +kernel
theorem dX0_hasPassed_15 : decode cX0_hasPassed 15 = .ok (.istore_n 3, 1) := by decide +kernel
theorem dX0_hasPassed_16 : decode cX0_hasPassed 16 = .ok (.aload_n 0, 1) := by decide +kernel
theorem dX0_hasPassed_17 : decode cX0_hasPassed 17 = .ok (.getfield 12, 3) := by decide +kernel
theorem dX0_hasPassed_20 : decode cX0_hasPassed 20 = .ok (.getfield 63, 3) := by decide +kernel
theorem dX0_hasPassed_23 : decode cX0_hasPassed 23 = .ok (.iload_n 1, 1) := by decide +kernel
theorem dX0_hasPassed_24 : decode cX0_hasPassed 24 = .ok (.iaload, 1) := by decide +kernel
theorem dX0_hasPassed_25 : decode cX0_hasPassed 25 = .ok (.aload_n 0, 1) := by decide +kernel
theorem dX0_hasPassed_26 : decode cX0_hasPassed 26 = .ok (.getfield 12, 3) := by decide +kernel
theorem dX0_hasPassed_29 : decode cX0_hasPassed 29 = .ok (.getfield 63, 3) := by decide +kernel
theorem dX0_hasPassed_32 : decode cX0_hasPassed 32 = .ok (.iload_n 2, 1) := by decide +kernel
theorem dX0_hasPassed_33 : decode cX0_hasPassed 33 = .ok (.iaload, 1) := by decide +kernel
theorem dX0_hasPassed_34 : decode cX0_hasPassed 34 = .ok (.invokestatic 94, 3) := by decide +kernel
theorem dX0_hasPassed_37 : decode cX0_hasPassed 37 = .ok (.istore 4, 2) := by decide +kernel
theorem dX0_hasPassed_39 : decode cX0_hasPassed 39 = .ok (.iload_n 3, 1) := by decide +kernel
theorem dX0_hasPassed_40 : decode cX0_hasPassed 40 = .ok (.ifCond .ge 8, 3) := by decide +kernel
theorem dX0_hasPassed_43 : decode cX0_hasPassed 43 = .ok (.iload 4, 2) := by decide +kernel
theorem dX0_hasPassed_45 : decode cX0_hasPassed 45 = .ok (.ifCond .gt 12, 3) := by decide +kernel
theorem dX0_hasPassed_48 : decode cX0_hasPassed 48 = .ok (.iload_n 3, 1) := by decide +kernel
theorem dX0_hasPassed_49 : decode cX0_hasPassed 49 = .ok (.ifCond .le 12, 3) := by decide +kernel
theorem dX0_hasPassed_52 : decode cX0_hasPassed 52 = .ok (.iload 4, 2) := by decide +kernel
theorem dX0_hasPassed_54 : decode cX0_hasPassed 54 = .ok (.ifCond .ge 7, 3) := by decide +kernel
theorem dX0_hasPassed_57 : decode cX0_hasPassed 57 = .ok (.iconst 1, 1) := by decide +kernel
theorem dX0_hasPassed_58 : decode cX0_hasPassed 58 = .ok (.goto 4, 3) := by decide +kernel
theorem dX0_hasPassed_61 : decode cX0_hasPassed 61 = .ok (.iconst 0, 1) := by decide +kernel
theorem dX0_hasPassed_62 : decode cX0_hasPassed 62 = .ok (.ireturn, 1) := by decide +kernel
theorem dX1_init_0 : decode cX1_init 0 = .ok (.aload_n 0, 1) := by decide +kernel
theorem dX1_init_1 : decode cX1_init 1 = .ok (.invokespecial 3, 3) := by decide +kernel
theorem dX1_init_4 : decode cX1_init 4 = .ok (.aload_n 0, 1) := by decide +kernel
theorem dX1_init_5 : decode cX1_init 5 = .ok (.bipush 6, 2) := by decide +kernel
theorem dX1_init_7 : decode cX1_init 7 = .ok (.newarray .int, 2) := by decide +kernel
theorem dX1_init_9 : decode cX1_init 9 = .ok (.putfield 9, 3) := by decide +kernel
theorem dX1_init_12 : decode cX1_init 12 = .ok (.aload_n 0, 1) := by decide +kernel
theorem dX1_init_13 : decode cX1_init 13 = .ok (.bipush 6, 2) := by decide +kernel
theorem dX1_init_15 : decode cX1_init 15 = .ok (.newarray .int, 2) := by decide +kernel
theorem dX1_init_17 : decode cX1_init 17 = .ok (.putfield 15, 3) := by decide +kernel
theorem dX1_init_20 : decode cX1_init 20 = .ok (.aload_n 0, 1) := by decide +kernel
theorem dX1_init_21 : decode cX1_init 21 = .ok (.bipush 6, 2) := by decide +kernel
theorem dX1_init_23 : decode cX1_init 23 = .ok (.newarray .int, 2) := by decide +kernel
theorem dX1_init_25 : decode cX1_init 25 = .ok (.putfield 18, 3) := by decide +kernel
theorem dX1_init_28 : decode cX1_init 28 = .ok (.aload_n 0, 1) := by decide +kernel
theorem dX1_init_29 : decode cX1_init 29 = .ok (.bipush 6, 2) := by decide +kernel
theorem dX1_init_31 : decode cX1_init 31 = .ok (.newarray .int, 2) := by decide +kernel
theorem dX1_init_33 : decode cX1_init 33 = .ok (.putfield 21, 3) := by decide +kernel
theorem dX1_init_36 : decode cX1_init 36 = .ok (.aload_n 0, 1) := by decide +kernel
theorem dX1_init_37 : decode cX1_init 37 = .ok (.bipush 12, 2) := by decide +kernel
theorem dX1_init_39 : decode cX1_init 39 = .ok (.putfield 24, 3) := by decide +kernel
theorem dX1_init_42 : decode cX1_init 42 = .ok (.aload_n 0, 1) := by decide +kernel
theorem dX1_init_43 : decode cX1_init 43 = .ok (.iconst 1, 1) := by decide +kernel
theorem dX1_init_44 : decode cX1_init 44 = .ok (.putfield 28, 3) := by decide +kernel
theorem dX1_init_47 : decode cX1_init 47 = .ok (.return_, 1) := by decide +kernel
theorem dX1_settle_0 : decode cX1_settle 0 = .ok (.iload_n 1, 1) := by decide +kernel
theorem dX1_settle_1 : decode cX1_settle 1 = .ok (.ifCond .lt 9, 3) := by decide +kernel
theorem dX1_settle_4 : decode cX1_settle 4 = .ok (.iload_n 1, 1) := by decide +kernel
theorem dX1_settle_5 : decode cX1_settle 5 = .ok (.bipush 6, 2) := by decide +kernel
theorem dX1_settle_7 : decode cX1_settle 7 = .ok (.if_icmp .lt 4, 3) := by decide +kernel
theorem dX1_settle_10 : decode cX1_settle 10 = .ok (.return_, 1) := by decide +kernel
theorem dX1_settle_11 : decode cX1_settle 11 = .ok (.aload_n 0, 1) := by decide +kernel
theorem dX1_settle_12 : decode cX1_settle 12 = .ok (.dup, 1) := by decide +kernel
theorem dX1_settle_13 : decode cX1_settle 13 = .ok (.getfield 31, 3) := by decide +kernel
theorem dX1_settle_16 : decode cX1_settle 16 = .ok (.iconst 1, 1) := by decide +kernel
theorem dX1_settle_17 : decode cX1_settle 17 = .ok (.iload_n 1, 1) := by decide +kernel
theorem dX1_settle_18 : decode cX1_settle 18 = .ok (.ishl, 1) := by decide +kernel
theorem dX1_settle_19 : decode cX1_settle 19 = .ok (.ior, 1) := by decide +kernel
theorem dX1_settle_20 : decode cX1_settle 20 = .ok (.putfield 31, 3) := by decide +kernel
theorem dX1_settle_23 : decode cX1_settle 23 = .ok (.aload_n 0, 1) := by decide +kernel
theorem dX1_settle_24 : decode cX1_settle 24 = .ok (.getfield 9, 3) := by decide +kernel
theorem dX1_settle_27 : decode cX1_settle 27 = .ok (.iload_n 1, 1) := by decide +kernel
theorem dX1_settle_28 : decode cX1_settle 28 = .ok (.iload_n 2, 1) := by decide +kernel
theorem dX1_settle_29 : decode cX1_settle 29 = .ok (.iastore, 1) := by decide +kernel
theorem dX1_settle_30 : decode cX1_settle 30 = .ok (.aload_n 0, 1) := by decide +kernel
theorem dX1_settle_31 : decode cX1_settle 31 = .ok (.getfield 15, 3) := by decide +kernel
theorem dX1_settle_34 : decode cX1_settle 34 = .ok (.iload_n 1, 1) := by decide +kernel
theorem dX1_settle_35 : decode cX1_settle 35 = .ok (.iload_n 3, 1) := by decide +kernel
theorem dX1_settle_36 : decode cX1_settle 36 = .ok (.iastore, 1) := by decide +kernel
theorem dX1_settle_37 : decode cX1_settle 37 = .ok (.aload_n 0, 1) := by decide +kernel
theorem dX1_settle_38 : decode cX1_settle 38 = .ok (.getfield 18, 3) := by decide +kernel
theorem dX1_settle_41 : decode cX1_settle 41 = .ok (.iload_n 1, 1) := by decide +kernel
theorem dX1_settle_42 : decode cX1_settle 42 = .ok (.iload 4, 2) := by decide +kernel
theorem dX1_settle_44 : decode cX1_settle 44 = .ok (.iastore, 1) := by decide +kernel
theorem dX1_settle_45 : decode cX1_settle 45 = .ok (.aload_n 0, 1) := by decide +kernel
theorem dX1_settle_46 : decode cX1_settle 46 = .ok (.getfield 21, 3) := by decide +kernel
theorem dX1_settle_49 : decode cX1_settle 49 = .ok (.iload_n 1, 1) := by decide +kernel
theorem dX1_settle_50 : decode cX1_settle 50 = .ok (.iconst 0, 1) := by decide +kernel
theorem dX1_settle_51 : decode cX1_settle 51 = .ok (.iastore, 1) := by decide +kernel
theorem dX1_settle_52 : decode cX1_settle 52 = .ok (.return_, 1) := by decide +kernel
theorem dX1_drop_0 : decode cX1_drop 0 = .ok (.aload_n 0, 1) := by decide +kernel
theorem dX1_drop_1 : decode cX1_drop 1 = .ok (.iload_n 1, 1) := by decide +kernel
theorem dX1_drop_2 : decode cX1_drop 2 = .ok (.invokevirtual 40, 3) := by decide +kernel
theorem dX1_drop_5 : decode cX1_drop 5 = .ok (.ifCond .eq 17, 3) := by decide +kernel
theorem dX1_drop_8 : decode cX1_drop 8 = .ok (.aload_n 0, 1) := by decide +kernel
theorem dX1_drop_9 : decode cX1_drop 9 = .ok (.dup, 1) := by decide +kernel
theorem dX1_drop_10 : decode cX1_drop 10 = .ok (.getfield 31, 3) := by decide +kernel
theorem dX1_drop_13 : decode cX1_drop 13 = .ok (.iconst 1, 1) := by decide +kernel
theorem dX1_drop_14 : decode cX1_drop 14 = .ok (.iload_n 1, 1) := by decide +kernel
theorem dX1_drop_15 : decode cX1_drop 15 = .ok (.ishl, 1) := by decide +kernel
theorem dX1_drop_16 : decode cX1_drop 16 = .ok (.iconst (-1), 1) := by decide +kernel
theorem dX1_drop_17 : decode cX1_drop 17 = .ok (.ixor, 1) := by decide +kernel
theorem dX1_drop_18 : decode cX1_drop 18 = .ok (.iand, 1) := by decide +kernel
theorem dX1_drop_19 : decode cX1_drop 19 = .ok (.putfield 31, 3) := by decide +kernel
theorem dX1_drop_22 : decode cX1_drop 22 = .ok (.return_, 1) := by decide +kernel
theorem dX1_takeOver_0 : decode cX1_takeOver 0 = .ok (.aload_n 1, 1) := by decide +kernel
theorem dX1_takeOver_1 : decode cX1_takeOver 1 = .ok (.getfield 9, 3) := by decide +kernel
theorem dX1_takeOver_4 : decode cX1_takeOver 4 = .ok (.iconst 0, 1) := by decide +kernel
theorem dX1_takeOver_5 : decode cX1_takeOver 5 = .ok (.aload_n 0, 1) := by decide +kernel
theorem dX1_takeOver_6 : decode cX1_takeOver 6 = .ok (.getfield 9, 3) := by decide +kernel
theorem dX1_takeOver_9 : decode cX1_takeOver 9 = .ok (.iconst 0, 1) := by decide +kernel
theorem dX1_takeOver_10 : decode cX1_takeOver 10 = .ok (.bipush 6, 2) := by decide +kernel
theorem dX1_takeOver_12 : decode cX1_takeOver 12 = .ok (.invokestatic 44, 3) := by decide +kernel
theorem dX1_takeOver_15 : decode cX1_takeOver 15 = .ok (.aload_n 1, 1) := by decide +kernel
theorem dX1_takeOver_16 : decode cX1_takeOver 16 = .ok (.getfield 15, 3) := by decide +kernel
theorem dX1_takeOver_19 : decode cX1_takeOver 19 = .ok (.iconst 0, 1) := by decide +kernel
theorem dX1_takeOver_20 : decode cX1_takeOver 20 = .ok (.aload_n 0, 1) := by decide +kernel
theorem dX1_takeOver_21 : decode cX1_takeOver 21 = .ok (.getfield 15, 3) := by decide +kernel
theorem dX1_takeOver_24 : decode cX1_takeOver 24 = .ok (.iconst 0, 1) := by decide +kernel
theorem dX1_takeOver_25 : decode cX1_takeOver 25 = .ok (.bipush 6, 2) := by decide +kernel
theorem dX1_takeOver_27 : decode cX1_takeOver 27 = .ok (.invokestatic 44, 3) := by decide +kernel
theorem dX1_takeOver_30 : decode cX1_takeOver 30 = .ok (.aload_n 1, 1) := by decide +kernel
theorem dX1_takeOver_31 : decode cX1_takeOver 31 = .ok (.getfield 18, 3) := by decide +kernel
theorem dX1_takeOver_34 : decode cX1_takeOver 34 = .ok (.iconst 0, 1) := by decide +kernel
theorem dX1_takeOver_35 : decode cX1_takeOver 35 = .ok (.aload_n 0, 1) := by decide +kernel
theorem dX1_takeOver_36 : decode cX1_takeOver 36 = .ok (.getfield 18, 3) := by decide +kernel
theorem dX1_takeOver_39 : decode cX1_takeOver 39 = .ok (.iconst 0, 1) := by decide +kernel
theorem dX1_takeOver_40 : decode cX1_takeOver 40 = .ok (.bipush 6, 2) := by decide +kernel
theorem dX1_takeOver_42 : decode cX1_takeOver 42 = .ok (.invokestatic 44, 3) := by decide +kernel
theorem dX1_takeOver_45 : decode cX1_takeOver 45 = .ok (.aload_n 1, 1) := by decide +kernel
theorem dX1_takeOver_46 : decode cX1_takeOver 46 = .ok (.getfield 21, 3) := by decide +kernel
theorem dX1_takeOver_49 : decode cX1_takeOver 49 = .ok (.iconst 0, 1) := by decide +kernel
theorem dX1_takeOver_50 : decode cX1_takeOver 50 = .ok (.aload_n 0, 1) := by decide +kernel
theorem dX1_takeOver_51 : decode cX1_takeOver 51 = .ok (.getfield 21, 3) := by decide +kernel
theorem dX1_takeOver_54 : decode cX1_takeOver 54 = .ok (.iconst 0, 1) := by decide +kernel
theorem dX1_takeOver_55 : decode cX1_takeOver 55 = .ok (.bipush 6, 2) := by decide +kernel
theorem dX1_takeOver_57 : decode cX1_takeOver 57 = .ok (.invokestatic 44, 3) := by decide +kernel
theorem dX1_takeOver_60 : decode cX1_takeOver 60 = .ok (.aload_n 0, 1) := by decide +kernel
theorem dX1_takeOver_61 : decode cX1_takeOver 61 = .ok (.aload_n 1, 1) := by decide +kernel
theorem dX1_takeOver_62 : decode cX1_takeOver 62 = .ok (.getfield 31, 3) := by decide +kernel
theorem dX1_takeOver_65 : decode cX1_takeOver 65 = .ok (.putfield 31, 3) := by decide +kernel
theorem dX1_takeOver_68 : decode cX1_takeOver 68 = .ok (.aload_n 0, 1) := by decide +kernel
theorem dX1_takeOver_69 : decode cX1_takeOver 69 = .ok (.aload_n 1, 1) := by decide +kernel
theorem dX1_takeOver_70 : decode cX1_takeOver 70 = .ok (.getfield 50, 3) := by decide +kernel
theorem dX1_takeOver_73 : decode cX1_takeOver 73 = .ok (.putfield 50, 3) := by decide +kernel
theorem dX1_takeOver_76 : decode cX1_takeOver 76 = .ok (.aload_n 0, 1) := by decide +kernel
theorem dX1_takeOver_77 : decode cX1_takeOver 77 = .ok (.aload_n 1, 1) := by decide +kernel
theorem dX1_takeOver_78 : decode cX1_takeOver 78 = .ok (.getfield 24, 3) := by decide +kernel
theorem dX1_takeOver_81 : decode cX1_takeOver 81 = .ok (.putfield 24, 3) := by decide +kernel
theorem dX1_takeOver_84 : decode cX1_takeOver 84 = .ok (.aload_n 0, 1) := by decide +kernel
theorem dX1_takeOver_85 : decode cX1_takeOver 85 = .ok (.aload_n 1, 1) := by decide +kernel
theorem dX1_takeOver_86 : decode cX1_takeOver 86 = .ok (.getfield 28, 3) := by decide +kernel
theorem dX1_takeOver_89 : decode cX1_takeOver 89 = .ok (.putfield 28, 3) := by decide +kernel
theorem dX1_takeOver_92 : decode cX1_takeOver 92 = .ok (.return_, 1) := by decide +kernel
theorem dX1_whyNot_0 : decode cX1_whyNot 0 = .ok (.iload_n 1, 1) := by decide +kernel
theorem dX1_whyNot_1 : decode cX1_whyNot 1 = .ok (.bipush 33, 2) := by decide +kernel
theorem dX1_whyNot_3 : decode cX1_whyNot 3 = .ok (.if_icmp .eq 9, 3) := by decide +kernel
theorem dX1_whyNot_6 : decode cX1_whyNot 6 = .ok (.iload_n 1, 1) := by decide +kernel
theorem dX1_whyNot_7 : decode cX1_whyNot 7 = .ok (.bipush 46, 2) := by decide +kernel
theorem dX1_whyNot_9 : decode cX1_whyNot 9 = .ok (.if_icmp .ne 5, 3) := by decide +kernel
theorem dX1_whyNot_12 : decode cX1_whyNot 12 = .ok (.iconst 0, 1) := by decide +kernel
theorem dX1_whyNot_13 : decode cX1_whyNot 13 = .ok (.ireturn, 1) := by decide +kernel
theorem dX1_whyNot_14 : decode cX1_whyNot 14 = .ok (.aload_n 0, 1) := by decide +kernel
theorem dX1_whyNot_15 : decode cX1_whyNot 15 = .ok (.iload_n 2, 1) := by decide +kernel
theorem dX1_whyNot_16 : decode cX1_whyNot 16 = .ok (.invokevirtual 40, 3) := by decide +kernel
theorem dX1_whyNot_19 : decode cX1_whyNot 19 = .ok (.ifCond .eq 17, 3) := by decide +kernel
theorem dX1_whyNot_22 : decode cX1_whyNot 22 = .ok (.iload_n 1, 1) := by decide +kernel
theorem dX1_whyNot_23 : decode cX1_whyNot 23 = .ok (.bipush 62, 2) := by decide +kernel
theorem dX1_whyNot_25 : decode cX1_whyNot 25 = .ok (.if_icmp .ne 13, 3) := by decide +kernel
theorem dX1_whyNot_28 : decode cX1_whyNot 28 = .ok (.aload_n 0, 1) := by decide +kernel
theorem dX1_whyNot_29 : decode cX1_whyNot 29 = .ok (.iload_n 3, 1) := by decide +kernel
theorem dX1_whyNot_30 : decode cX1_whyNot 30 = .ok (.invokevirtual 40, 3) := by decide +kernel
theorem dX1_whyNot_33 : decode cX1_whyNot 33 = .ok (.ifCond .ne 5, 3) := by decide +kernel
theorem dX1_whyNot_36 : decode cX1_whyNot 36 = .ok (.iconst 1, 1) := by decide +kernel
theorem dX1_whyNot_37 : decode cX1_whyNot 37 = .ok (.ireturn, 1) := by decide +kernel
theorem dX1_whyNot_38 : decode cX1_whyNot 38 = .ok (.iload_n 1, 1) := by decide +kernel
theorem dX1_whyNot_39 : decode cX1_whyNot 39 = .ok (.bipush 120, 2) := by decide +kernel
theorem dX1_whyNot_41 : decode cX1_whyNot 41 = .ok (.if_icmp .ne 5, 3) := by decide +kernel
theorem dX1_whyNot_44 : decode cX1_whyNot 44 = .ok (.iconst 0, 1) := by decide +kernel
theorem dX1_whyNot_45 : decode cX1_whyNot 45 = .ok (.ireturn, 1) := by decide +kernel
theorem dX1_whyNot_46 : decode cX1_whyNot 46 = .ok (.iload_n 1, 1) := by decide +kernel
theorem dX1_whyNot_47 : decode cX1_whyNot 47 = .ok (.bipush 62, 2) := by decide +kernel
theorem dX1_whyNot_49 : decode cX1_whyNot 49 = .ok (.if_icmp .ne 10, 3) := by decide +kernel
theorem dX1_whyNot_52 : decode cX1_whyNot 52 = .ok (.aload_n 0, 1) := by decide +kernel
theorem dX1_whyNot_53 : decode cX1_whyNot 53 = .ok (.iload_n 2, 1) := by decide +kernel
theorem dX1_whyNot_54 : decode cX1_whyNot 54 = .ok (.iload_n 3, 1) := by decide +kernel
theorem dX1_whyNot_55 : decode cX1_whyNot 55 = .ok (.invokevirtual 53, 3) := by decide +kernel
theorem dX1_whyNot_58 : decode cX1_whyNot 58 = .ok (.ireturn, 1) := by decide +kernel
theorem dX1_whyNot_59 : decode cX1_whyNot 59 = .ok (.iload_n 1, 1) := by decide +kernel
theorem dX1_whyNot_60 : decode cX1_whyNot 60 = .ok (.invokestatic 57, 3) := by decide +kernel
theorem dX1_whyNot_63 : decode cX1_whyNot 63 = .ok (.istore 4, 2) := by decide +kernel
theorem dX1_whyNot_65 : decode cX1_whyNot 65 = .ok (.aload_n 0, 1) := by decide +kernel
theorem dX1_whyNot_66 : decode cX1_whyNot 66 = .ok (.getfield 21, 3) := by decide +kernel
theorem dX1_whyNot_69 : decode cX1_whyNot 69 = .ok (.iload_n 2, 1) := by decide +kernel
theorem dX1_whyNot_70 : decode cX1_whyNot 70 = .ok (.iaload, 1) := by decide +kernel
theorem dX1_whyNot_71 : decode cX1_whyNot 71 = .ok (.iload 4, 2) := by decide +kernel
theorem dX1_whyNot_73 : decode cX1_whyNot 73 = .ok (.iadd, 1) := by decide +kernel
theorem dX1_whyNot_74 : decode cX1_whyNot 74 = .ok (.iconst 2, 1) := by decide +kernel
theorem dX1_whyNot_75 : decode cX1_whyNot 75 = .ok (.if_icmp .le 5, 3) := by decide +kernel
theorem dX1_whyNot_78 : decode cX1_whyNot 78 = .ok (.iconst 3, 1) := by decide +kernel
theorem dX1_whyNot_79 : decode cX1_whyNot 79 = .ok (.ireturn, 1) := by decide +kernel
theorem dX1_whyNot_80 : decode cX1_whyNot 80 = .ok (.aload_n 0, 1) := by decide +kernel
theorem dX1_whyNot_81 : decode cX1_whyNot 81 = .ok (.getfield 50, 3) := by decide +kernel
theorem dX1_whyNot_84 : decode cX1_whyNot 84 = .ok (.iload 4, 2) := by decide +kernel
theorem dX1_whyNot_86 : decode cX1_whyNot 86 = .ok (.if_icmp .ge 7, 3) := by decide +kernel
theorem dX1_whyNot_89 : decode cX1_whyNot 89 = .ok (.iconst 4, 1) := by decide +kernel
theorem dX1_whyNot_90 : decode cX1_whyNot 90 = .ok (.goto 4, 3) := by decide +kernel
theorem dX1_whyNot_93 : decode cX1_whyNot 93 = .ok (.iconst 0, 1) := by decide +kernel
theorem dX1_whyNot_94 : decode cX1_whyNot 94 = .ok (.ireturn, 1) := by decide +kernel
theorem dX1_whyNotGive_0 : decode cX1_whyNotGive 0 = .ok (.iload_n 1, 1) := by decide +kernel
theorem dX1_whyNotGive_1 : decode cX1_whyNotGive 1 = .ok (.iload_n 2, 1) := by decide +kernel
theorem dX1_whyNotGive_2 : decode cX1_whyNotGive 2 = .ok (.if_icmp .ne 5, 3) := by decide +kernel
theorem dX1_whyNotGive_5 : decode cX1_whyNotGive 5 = .ok (.iconst 2, 1) := by decide +kernel
theorem dX1_whyNotGive_6 : decode cX1_whyNotGive 6 = .ok (.ireturn, 1) := by decide +kernel
theorem dX1_whyNotGive_7 : decode cX1_whyNotGive 7 = .ok (.aload_n 0, 1) := by decide +kernel
theorem dX1_whyNotGive_8 : decode cX1_whyNotGive 8 = .ok (.getfield 21, 3) := by decide +kernel
theorem dX1_whyNotGive_11 : decode cX1_whyNotGive 11 = .ok (.iload_n 2, 1) := by decide +kernel
theorem dX1_whyNotGive_12 : decode cX1_whyNotGive 12 = .ok (.iaload, 1) := by decide +kernel
theorem dX1_whyNotGive_13 : decode cX1_whyNotGive 13 = .ok (.iconst 1, 1) := by decide +kernel
theorem dX1_whyNotGive_14 : decode cX1_whyNotGive 14 = .ok (.iadd, 1) := by decide +kernel
theorem dX1_whyNotGive_15 : decode cX1_whyNotGive 15 = .ok (.iconst 2, 1) := by decide +kernel
theorem dX1_whyNotGive_16 : decode cX1_whyNotGive 16 = .ok (.if_icmp .le 5, 3) := by decide +kernel
theorem dX1_whyNotGive_19 : decode cX1_whyNotGive 19 = .ok (.iconst 3, 1) := by decide +kernel
theorem dX1_whyNotGive_20 : decode cX1_whyNotGive 20 = .ok (.ireturn, 1) := by decide +kernel
theorem dX1_whyNotGive_21 : decode cX1_whyNotGive 21 = .ok (.aload_n 0, 1) := by decide +kernel
theorem dX1_whyNotGive_22 : decode cX1_whyNotGive 22 = .ok (.getfield 21, 3) := by decide +kernel
theorem dX1_whyNotGive_25 : decode cX1_whyNotGive 25 = .ok (.iload_n 1, 1) := by decide +kernel
theorem dX1_whyNotGive_26 : decode cX1_whyNotGive 26 = .ok (.iaload, 1) := by decide +kernel
theorem dX1_whyNotGive_27 : decode cX1_whyNotGive 27 = .ok (.ifCond .ne 7, 3) := by decide +kernel
theorem dX1_whyNotGive_30 : decode cX1_whyNotGive 30 = .ok (.iconst 5, 1) := by decide +kernel
theorem dX1_whyNotGive_31 : decode cX1_whyNotGive 31 = .ok (.goto 4, 3) := by decide +kernel
theorem dX1_whyNotGive_34 : decode cX1_whyNotGive 34 = .ok (.iconst 0, 1) := by decide +kernel
theorem dX1_whyNotGive_35 : decode cX1_whyNotGive 35 = .ok (.ireturn, 1) := by decide +kernel
theorem dX1_act_0 : decode cX1_act 0 = .ok (.aload_n 0, 1) := by decide +kernel
theorem dX1_act_1 : decode cX1_act 1 = .ok (.iload_n 1, 1) := by decide +kernel
theorem dX1_act_2 : decode cX1_act 2 = .ok (.iload_n 2, 1) := by decide +kernel
theorem dX1_act_3 : decode cX1_act 3 = .ok (.iload_n 3, 1) := by decide +kernel
theorem dX1_act_4 : decode cX1_act 4 = .ok (.invokevirtual 60, 3) := by decide +kernel
theorem dX1_act_7 : decode cX1_act 7 = .ok (.ifCond .eq 4, 3) := by decide +kernel
theorem dX1_act_10 : decode cX1_act 10 = .ok (.return_, 1) := by decide +kernel
theorem dX1_act_11 : decode cX1_act 11 = .ok (.iload_n 1, 1) := by decide +kernel
theorem dX1_act_12 : decode cX1_act 12 = .ok (.bipush 33, 2) := by decide +kernel
theorem dX1_act_14 : decode cX1_act 14 = .ok (.if_icmp .ne 16, 3) := by decide +kernel
theorem dX1_act_17 : decode cX1_act 17 = .ok (.aload_n 0, 1) := by decide +kernel
theorem dX1_act_18 : decode cX1_act 18 = .ok (.iconst 1, 1) := by decide +kernel
theorem dX1_act_19 : decode cX1_act 19 = .ok (.aload_n 0, 1) := by decide +kernel
theorem dX1_act_20 : decode cX1_act 20 = .ok (.getfield 28, 3) := by decide +kernel
theorem dX1_act_23 : decode cX1_act 23 = .ok (.isub, 1) := by decide +kernel
theorem dX1_act_24 : decode cX1_act 24 = .ok (.putfield 28, 3) := by decide +kernel
theorem dX1_act_27 : decode cX1_act 27 = .ok (.goto 109, 3) := by decide +kernel
theorem dX1_act_30 : decode cX1_act 30 = .ok (.iload_n 1, 1) := by decide +kernel
theorem dX1_act_31 : decode cX1_act 31 = .ok (.bipush 46, 2) := by decide +kernel
theorem dX1_act_33 : decode cX1_act 33 = .ok (.if_icmp .ne 10, 3) := by decide +kernel
theorem dX1_act_36 : decode cX1_act 36 = .ok (.aload_n 0, 1) := by decide +kernel
theorem dX1_act_37 : decode cX1_act 37 = .ok (.invokevirtual 64, 3) := by decide +kernel
theorem dX1_act_40 : decode cX1_act 40 = .ok (.goto 96, 3) := by decide +kernel
theorem dX1_act_43 : decode cX1_act 43 = .ok (.iload_n 1, 1) := by decide +kernel
theorem dX1_act_44 : decode cX1_act 44 = .ok (.bipush 120, 2) := by decide +kernel
theorem dX1_act_46 : decode cX1_act 46 = .ok (.if_icmp .ne 11, 3) := by decide +kernel
theorem dX1_act_49 : decode cX1_act 49 = .ok (.aload_n 0, 1) := by decide +kernel
theorem dX1_act_50 : decode cX1_act 50 = .ok (.iload_n 2, 1) := by decide +kernel
theorem dX1_act_51 : decode cX1_act 51 = .ok (.invokevirtual 67, 3) := by decide +kernel
theorem dX1_act_54 : decode cX1_act 54 = .ok (.goto 82, 3) := by decide +kernel
theorem dX1_act_57 : decode cX1_act 57 = .ok (.iload_n 1, 1) := by decide +kernel
theorem dX1_act_58 : decode cX1_act 58 = .ok (.bipush 62, 2) := by decide +kernel
theorem dX1_act_60 : decode cX1_act 60 = .ok (.if_icmp .ne 42, 3) := by decide +kernel
theorem dX1_act_63 : decode cX1_act 63 = .ok (.aload_n 0, 1) := by decide +kernel
theorem dX1_act_64 : decode cX1_act 64 = .ok (.iload_n 2, 1) := by decide +kernel
theorem dX1_act_65 : decode cX1_act 65 = .ok (.invokevirtual 40, 3) := by decide +kernel
theorem dX1_act_68 : decode cX1_act 68 = .ok (.ifCond .eq 34, 3) := by decide +kernel
theorem dX1_act_71 : decode cX1_act 71 = .ok (.aload_n 0, 1) := by decide +kernel
theorem dX1_act_72 : decode cX1_act 72 = .ok (.iload_n 3, 1) := by decide +kernel
theorem dX1_act_73 : decode cX1_act 73 = .ok (.invokevirtual 40, 3) := by decide +kernel
theorem dX1_act_76 : decode cX1_act 76 = .ok (.ifCond .eq 26, 3) := by decide +kernel
theorem dX1_act_79 : decode cX1_act 79 = .ok (.aload_n 0, 1) := by decide +kernel
theorem dX1_act_80 : decode cX1_act 80 = .ok (.getfield 21, 3) := by decide +kernel
theorem dX1_act_83 : decode cX1_act 83 = .ok (.iload_n 2, 1) := by decide +kernel
theorem dX1_act_84 : decode cX1_act 84 = .ok (.dup2, 1) := by decide +kernel
theorem dX1_act_85 : decode cX1_act 85 = .ok (.iaload, 1) := by decide +kernel
theorem dX1_act_86 : decode cX1_act 86 = .ok (.iconst 1, 1) := by decide +kernel
theorem dX1_act_87 : decode cX1_act 87 = .ok (.isub, 1) := by decide +kernel
theorem dX1_act_88 : decode cX1_act 88 = .ok (.iastore, 1) := by decide +kernel
theorem dX1_act_89 : decode cX1_act 89 = .ok (.aload_n 0, 1) := by decide +kernel
theorem dX1_act_90 : decode cX1_act 90 = .ok (.getfield 21, 3) := by decide +kernel
theorem dX1_act_93 : decode cX1_act 93 = .ok (.iload_n 3, 1) := by decide +kernel
theorem dX1_act_94 : decode cX1_act 94 = .ok (.dup2, 1) := by decide +kernel
theorem dX1_act_95 : decode cX1_act 95 = .ok (.iaload, 1) := by decide +kernel
theorem dX1_act_96 : decode cX1_act 96 = .ok (.iconst 1, 1) := by decide +kernel
theorem dX1_act_97 : decode cX1_act 97 = .ok (.iadd, 1) := by decide +kernel
theorem dX1_act_98 : decode cX1_act 98 = .ok (.iastore, 1) := by decide +kernel
theorem dX1_act_99 : decode cX1_act 99 = .ok (.goto 37, 3) := by decide +kernel
theorem dX1_act_102 : decode cX1_act 102 = .ok (.aload_n 0, 1) := by decide +kernel
theorem dX1_act_103 : decode cX1_act 103 = .ok (.iload_n 2, 1) := by decide +kernel
theorem dX1_act_104 : decode cX1_act 104 = .ok (.invokevirtual 40, 3) := by decide +kernel
theorem dX1_act_107 : decode cX1_act 107 = .ok (.ifCond .eq 29, 3) := by decide +kernel
theorem dX1_act_110 : decode cX1_act 110 = .ok (.aload_n 0, 1) := by decide +kernel
theorem dX1_act_111 : decode cX1_act 111 = .ok (.getfield 21, 3) := by decide +kernel
theorem dX1_act_114 : decode cX1_act 114 = .ok (.iload_n 2, 1) := by decide +kernel
theorem dX1_act_115 : decode cX1_act 115 = .ok (.dup2, 1) := by decide +kernel
theorem dX1_act_116 : decode cX1_act 116 = .ok (.iaload, 1) := by decide +kernel
theorem dX1_act_117 : decode cX1_act 117 = .ok (.iload_n 1, 1) := by decide +kernel
theorem dX1_act_118 : decode cX1_act 118 = .ok (.invokestatic 57, 3) := by decide +kernel
theorem dX1_act_121 : decode cX1_act 121 = .ok (.iadd, 1) := by decide +kernel
theorem dX1_act_122 : decode cX1_act 122 = .ok (.iastore, 1) := by decide +kernel
theorem dX1_act_123 : decode cX1_act 123 = .ok (.aload_n 0, 1) := by decide +kernel
theorem dX1_act_124 : decode cX1_act 124 = .ok (.dup, 1) := by decide +kernel
theorem dX1_act_125 : decode cX1_act 125 = .ok (.getfield 50, 3) := by decide +kernel
theorem dX1_act_128 : decode cX1_act 128 = .ok (.iload_n 1, 1) := by decide +kernel
theorem dX1_act_129 : decode cX1_act 129 = .ok (.invokestatic 57, 3) := by decide +kernel
theorem dX1_act_132 : decode cX1_act 132 = .ok (.isub, 1) := by decide +kernel
theorem dX1_act_133 : decode cX1_act 133 = .ok (.putfield 50, 3) := by decide +kernel
theorem dX1_act_136 : decode cX1_act 136 = .ok (.return_, 1) := by decide +kernel
theorem dX1_wake_0 : decode cX1_wake 0 = .ok (.iconst 0, 1) := by decide +kernel
theorem dX1_wake_1 : decode cX1_wake 1 = .ok (.istore_n 1, 1) := by decide +kernel
theorem dX1_wake_2 : decode cX1_wake 2 = .ok (.iload_n 1, 1) := by decide +kernel
theorem dX1_wake_3 : decode cX1_wake 3 = .ok (.bipush 6, 2) := by decide +kernel
theorem dX1_wake_5 : decode cX1_wake 5 = .ok (.if_icmp .ge 47, 3) := by decide +kernel
theorem dX1_wake_8 : decode cX1_wake 8 = .ok (.aload_n 0, 1) := by decide +kernel
theorem dX1_wake_9 : decode cX1_wake 9 = .ok (.iload_n 1, 1) := by decide +kernel
theorem dX1_wake_10 : decode cX1_wake 10 = .ok (.invokevirtual 40, 3) := by decide +kernel
theorem dX1_wake_13 : decode cX1_wake 13 = .ok (.ifCond .eq 33, 3) := by decide +kernel
theorem dX1_wake_16 : decode cX1_wake 16 = .ok (.aload_n 0, 1) := by decide +kernel
theorem dX1_wake_17 : decode cX1_wake 17 = .ok (.getfield 9, 3) := by decide +kernel
theorem dX1_wake_20 : decode cX1_wake 20 = .ok (.iload_n 1, 1) := by decide +kernel
theorem dX1_wake_21 : decode cX1_wake 21 = .ok (.aload_n 0, 1) := by decide +kernel
theorem dX1_wake_22 : decode cX1_wake 22 = .ok (.iload_n 1, 1) := by decide +kernel
theorem dX1_wake_23 : decode cX1_wake 23 = .ok (.aload_n 0, 1) := by decide +kernel
theorem dX1_wake_24 : decode cX1_wake 24 = .ok (.getfield 9, 3) := by decide +kernel
theorem dX1_wake_27 : decode cX1_wake 27 = .ok (.iload_n 1, 1) := by decide +kernel
theorem dX1_wake_28 : decode cX1_wake 28 = .ok (.iaload, 1) := by decide +kernel
theorem dX1_wake_29 : decode cX1_wake 29 = .ok (.aload_n 0, 1) := by decide +kernel
theorem dX1_wake_30 : decode cX1_wake 30 = .ok (.getfield 21, 3) := by decide +kernel
theorem dX1_wake_33 : decode cX1_wake 33 = .ok (.iload_n 1, 1) := by decide +kernel
theorem dX1_wake_34 : decode cX1_wake 34 = .ok (.iaload, 1) := by decide +kernel
theorem dX1_wake_35 : decode cX1_wake 35 = .ok (.invokevirtual 71, 3) := by decide +kernel
theorem dX1_wake_38 : decode cX1_wake 38 = .ok (.iastore, 1) := by decide +kernel
theorem dX1_wake_39 : decode cX1_wake 39 = .ok (.aload_n 0, 1) := by decide +kernel
theorem dX1_wake_40 : decode cX1_wake 40 = .ok (.getfield 21, 3) := by decide +kernel
theorem dX1_wake_43 : decode cX1_wake 43 = .ok (.iload_n 1, 1) := by decide +kernel
theorem dX1_wake_44 : decode cX1_wake 44 = .ok (.iconst 0, 1) := by decide +kernel
theorem dX1_wake_45 : decode cX1_wake 45 = .ok (.iastore, 1) := by decide +kernel
theorem dX1_wake_46 : decode cX1_wake 46 = .ok (.iinc 1 1, 3) := by decide +kernel
theorem dX1_wake_49 : decode cX1_wake 49 = .ok (.goto (-47), 3) := by decide +kernel
theorem dX1_wake_52 : decode cX1_wake 52 = .ok (.aload_n 0, 1) := by decide +kernel
theorem dX1_wake_53 : decode cX1_wake 53 = .ok (.aload_n 0, 1) := by decide +kernel
theorem dX1_wake_54 : decode cX1_wake 54 = .ok (.getfield 28, 3) := by decide +kernel
theorem dX1_wake_57 : decode cX1_wake 57 = .ok (.iconst 1, 1) := by decide +kernel
theorem dX1_wake_58 : decode cX1_wake 58 = .ok (.if_icmp .ne 10, 3) := by decide +kernel
theorem dX1_wake_61 : decode cX1_wake 61 = .ok (.aload_n 0, 1) := by decide +kernel
theorem dX1_wake_62 : decode cX1_wake 62 = .ok (.getfield 24, 3) := by decide +kernel
theorem dX1_wake_65 : decode cX1_wake 65 = .ok (.goto 4, 3) := by decide +kernel
theorem dX1_wake_68 : decode cX1_wake 68 = .ok (.iconst 0, 1) := by decide +kernel
theorem dX1_wake_69 : decode cX1_wake 69 = .ok (.putfield 50, 3) := by decide +kernel
theorem dX1_wake_72 : decode cX1_wake 72 = .ok (.return_, 1) := by decide +kernel
theorem dX1_oldestOne_0 : decode cX1_oldestOne 0 = .ok (.bipush (-6), 2) := by decide +kernel
theorem dX1_oldestOne_2 : decode cX1_oldestOne 2 = .ok (.istore_n 1, 1) := by decide +kernel
theorem dX1_oldestOne_3 : decode cX1_oldestOne 3 = .ok (.iconst (-1), 1) := by decide +kernel
theorem dX1_oldestOne_4 : decode cX1_oldestOne 4 = .ok (.istore_n 2, 1) := by decide +kernel
theorem dX1_oldestOne_5 : decode cX1_oldestOne 5 = .ok (.iconst 0, 1) := by decide +kernel
theorem dX1_oldestOne_6 : decode cX1_oldestOne 6 = .ok (.istore_n 3, 1) := by decide +kernel
theorem dX1_oldestOne_7 : decode cX1_oldestOne 7 = .ok (.iload_n 3, 1) := by decide +kernel
theorem dX1_oldestOne_8 : decode cX1_oldestOne 8 = .ok (.bipush 6, 2) := by decide +kernel
theorem dX1_oldestOne_10 : decode cX1_oldestOne 10 = .ok (.if_icmp .ge 36, 3) := by decide +kernel
theorem dX1_oldestOne_13 : decode cX1_oldestOne 13 = .ok (.aload_n 0, 1) := by decide +kernel
theorem dX1_oldestOne_14 : decode cX1_oldestOne 14 = .ok (.iload_n 3, 1) := by decide +kernel
theorem dX1_oldestOne_15 : decode cX1_oldestOne 15 = .ok (.invokevirtual 40, 3) := by decide +kernel
theorem dX1_oldestOne_18 : decode cX1_oldestOne 18 = .ok (.ifCond .eq 22, 3) := by decide +kernel
theorem dX1_oldestOne_21 : decode cX1_oldestOne 21 = .ok (.aload_n 0, 1) := by decide +kernel
theorem dX1_oldestOne_22 : decode cX1_oldestOne 22 = .ok (.getfield 9, 3) := by decide +kernel
theorem dX1_oldestOne_25 : decode cX1_oldestOne 25 = .ok (.iload_n 3, 1) := by decide +kernel
theorem dX1_oldestOne_26 : decode cX1_oldestOne 26 = .ok (.iaload, 1) := by decide +kernel
theorem dX1_oldestOne_27 : decode cX1_oldestOne 27 = .ok (.iload_n 2, 1) := by decide +kernel
theorem dX1_oldestOne_28 : decode cX1_oldestOne 28 = .ok (.if_icmp .le 12, 3) := by decide +kernel
theorem dX1_oldestOne_31 : decode cX1_oldestOne 31 = .ok (.iload_n 3, 1) := by decide +kernel
theorem dX1_oldestOne_32 : decode cX1_oldestOne 32 = .ok (.istore_n 1, 1) := by decide +kernel
theorem dX1_oldestOne_33 : decode cX1_oldestOne 33 = .ok (.aload_n 0, 1) := by decide +kernel
theorem dX1_oldestOne_34 : decode cX1_oldestOne 34 = .ok (.getfield 9, 3) := by decide +kernel
theorem dX1_oldestOne_37 : decode cX1_oldestOne 37 = .ok (.iload_n 3, 1) := by decide +kernel
theorem dX1_oldestOne_38 : decode cX1_oldestOne 38 = .ok (.iaload, 1) := by decide +kernel
theorem dX1_oldestOne_39 : decode cX1_oldestOne 39 = .ok (.istore_n 2, 1) := by decide +kernel
theorem dX1_oldestOne_40 : decode cX1_oldestOne 40 = .ok (.iinc 3 1, 3) := by decide +kernel
theorem dX1_oldestOne_43 : decode cX1_oldestOne 43 = .ok (.goto (-36), 3) := by decide +kernel
theorem dX1_oldestOne_46 : decode cX1_oldestOne 46 = .ok (.iload_n 1, 1) := by decide +kernel
theorem dX1_oldestOne_47 : decode cX1_oldestOne 47 = .ok (.ireturn, 1) := by decide +kernel
theorem dX1_looksTogether_0 : decode cX1_looksTogether 0 = .ok (.iconst 0, 1) := by decide +kernel
theorem dX1_looksTogether_1 : decode cX1_looksTogether 1 = .ok (.istore_n 1, 1) := by decide +kernel
theorem dX1_looksTogether_2 : decode cX1_looksTogether 2 = .ok (.iconst 0, 1) := by decide +kernel
theorem dX1_looksTogether_3 : decode cX1_looksTogether 3 = .ok (.istore_n 2, 1) := by decide +kernel
theorem dX1_looksTogether_4 : decode cX1_looksTogether 4 = .ok (.iload_n 2, 1) := by decide +kernel
theorem dX1_looksTogether_5 : decode cX1_looksTogether 5 = .ok (.bipush 6, 2) := by decide +kernel
theorem dX1_looksTogether_7 : decode cX1_looksTogether 7 = .ok (.if_icmp .ge 30, 3) := by decide +kernel
theorem dX1_looksTogether_10 : decode cX1_looksTogether 10 = .ok (.iload_n 1, 1) := by decide +kernel
theorem dX1_looksTogether_11 : decode cX1_looksTogether 11 = .ok (.aload_n 0, 1) := by decide +kernel
theorem dX1_looksTogether_12 : decode cX1_looksTogether 12 = .ok (.iload_n 2, 1) := by decide +kernel
theorem dX1_looksTogether_13 : decode cX1_looksTogether 13 = .ok (.invokevirtual 40, 3) := by decide +kernel
theorem dX1_looksTogether_16 : decode cX1_looksTogether 16 = .ok (.ifCond .eq 12, 3) := by decide +kernel
theorem dX1_looksTogether_19 : decode cX1_looksTogether 19 = .ok (.aload_n 0, 1) := by decide +kernel
theorem dX1_looksTogether_20 : decode cX1_looksTogether 20 = .ok (.getfield 9, 3) := by decide +kernel
theorem dX1_looksTogether_23 : decode cX1_looksTogether 23 = .ok (.iload_n 2, 1) := by decide +kernel
theorem dX1_looksTogether_24 : decode cX1_looksTogether 24 = .ok (.iaload, 1) := by decide +kernel
theorem dX1_looksTogether_25 : decode cX1_looksTogether 25 = .ok (.goto 4, 3) := by decide +kernel
theorem dX1_looksTogether_28 : decode cX1_looksTogether 28 = .ok (.iconst 0, 1) := by decide +kernel
theorem dX1_looksTogether_29 : decode cX1_looksTogether 29 = .ok (.iadd, 1) := by decide +kernel
theorem dX1_looksTogether_30 : decode cX1_looksTogether 30 = .ok (.istore_n 1, 1) := by decide +kernel
theorem dX1_looksTogether_31 : decode cX1_looksTogether 31 = .ok (.iinc 2 1, 3) := by decide +kernel
theorem dX1_looksTogether_34 : decode cX1_looksTogether 34 = .ok (.goto (-30), 3) := by decide +kernel
theorem dX1_looksTogether_37 : decode cX1_looksTogether 37 = .ok (.iload_n 1, 1) := by decide +kernel
theorem dX1_looksTogether_38 : decode cX1_looksTogether 38 = .ok (.ireturn, 1) := by decide +kernel
theorem dX2_init_0 : decode cX2_init 0 = .ok (.aload_n 0, 1) := by decide +kernel
theorem dX2_init_1 : decode cX2_init 1 = .ok (.invokespecial 1, 3) := by decide +kernel
theorem dX2_init_4 : decode cX2_init 4 = .ok (.aload_n 0, 1) := by decide +kernel
theorem dX2_init_5 : decode cX2_init 5 = .ok (.new 7, 3) := by decide +kernel
theorem dX2_init_8 : decode cX2_init 8 = .ok (.dup, 1) := by decide +kernel
theorem dX2_init_9 : decode cX2_init 9 = .ok (.invokespecial 9, 3) := by decide +kernel
theorem dX2_init_12 : decode cX2_init 12 = .ok (.putfield 10, 3) := by decide +kernel
theorem dX2_init_15 : decode cX2_init 15 = .ok (.aload_n 0, 1) := by decide +kernel
theorem dX2_init_16 : decode cX2_init 16 = .ok (.new 16, 3) := by decide +kernel
theorem dX2_init_19 : decode cX2_init 19 = .ok (.dup, 1) := by decide +kernel
theorem dX2_init_20 : decode cX2_init 20 = .ok (.invokespecial 18, 3) := by decide +kernel
theorem dX2_init_23 : decode cX2_init 23 = .ok (.putfield 19, 3) := by decide +kernel
theorem dX2_init_26 : decode cX2_init 26 = .ok (.return_, 1) := by decide +kernel
theorem dX2_keep_0 : decode cX2_keep 0 = .ok (.aload_n 0, 1) := by decide +kernel
theorem dX2_keep_1 : decode cX2_keep 1 = .ok (.getfield 10, 3) := by decide +kernel
theorem dX2_keep_4 : decode cX2_keep 4 = .ok (.aload_n 1, 1) := by decide +kernel
theorem dX2_keep_5 : decode cX2_keep 5 = .ok (.invokevirtual 23, 3) := by decide +kernel
theorem dX2_keep_8 : decode cX2_keep 8 = .ok (.aload_n 0, 1) := by decide +kernel
theorem dX2_keep_9 : decode cX2_keep 9 = .ok (.getfield 19, 3) := by decide +kernel
theorem dX2_keep_12 : decode cX2_keep 12 = .ok (.aload_n 2, 1) := by decide +kernel
theorem dX2_keep_13 : decode cX2_keep 13 = .ok (.invokevirtual 27, 3) := by decide +kernel
theorem dX2_keep_16 : decode cX2_keep 16 = .ok (.aload_n 0, 1) := by decide +kernel
theorem dX2_keep_17 : decode cX2_keep 17 = .ok (.iconst 1, 1) := by decide +kernel
theorem dX2_keep_18 : decode cX2_keep 18 = .ok (.putfield 30, 3) := by decide +kernel
theorem dX2_keep_21 : decode cX2_keep 21 = .ok (.return_, 1) := by decide +kernel
theorem dX2_giveBack_0 : decode cX2_giveBack 0 = .ok (.aload_n 1, 1) := by decide +kernel
theorem dX2_giveBack_1 : decode cX2_giveBack 1 = .ok (.aload_n 0, 1) := by decide +kernel
theorem dX2_giveBack_2 : decode cX2_giveBack 2 = .ok (.getfield 10, 3) := by decide +kernel
theorem dX2_giveBack_5 : decode cX2_giveBack 5 = .ok (.invokevirtual 23, 3) := by decide +kernel
theorem dX2_giveBack_8 : decode cX2_giveBack 8 = .ok (.aload_n 2, 1) := by decide +kernel
theorem dX2_giveBack_9 : decode cX2_giveBack 9 = .ok (.aload_n 0, 1) := by decide +kernel
theorem dX2_giveBack_10 : decode cX2_giveBack 10 = .ok (.getfield 19, 3) := by decide +kernel
theorem dX2_giveBack_13 : decode cX2_giveBack 13 = .ok (.invokevirtual 27, 3) := by decide +kernel
theorem dX2_giveBack_16 : decode cX2_giveBack 16 = .ok (.return_, 1) := by decide +kernel
theorem dX4_init_0 : decode cX4_init 0 = .ok (.aload_n 0, 1) := by decide +kernel
theorem dX4_init_1 : decode cX4_init 1 = .ok (.invokespecial 3, 3) := by decide +kernel
theorem dX4_init_4 : decode cX4_init 4 = .ok (.aload_n 0, 1) := by decide +kernel
theorem dX4_init_5 : decode cX4_init 5 = .ok (.bipush 60, 2) := by decide +kernel
theorem dX4_init_7 : decode cX4_init 7 = .ok (.newarray .int, 2) := by decide +kernel
theorem dX4_init_9 : decode cX4_init 9 = .ok (.putfield 11, 3) := by decide +kernel
theorem dX4_init_12 : decode cX4_init 12 = .ok (.aload_n 0, 1) := by decide +kernel
theorem dX4_init_13 : decode cX4_init 13 = .ok (.bipush 60, 2) := by decide +kernel
theorem dX4_init_15 : decode cX4_init 15 = .ok (.newarray .int, 2) := by decide +kernel
theorem dX4_init_17 : decode cX4_init 17 = .ok (.putfield 15, 3) := by decide +kernel
theorem dX4_init_20 : decode cX4_init 20 = .ok (.aload_n 0, 1) := by decide +kernel
theorem dX4_init_21 : decode cX4_init 21 = .ok (.bipush 60, 2) := by decide +kernel
theorem dX4_init_23 : decode cX4_init 23 = .ok (.newarray .int, 2) := by decide +kernel
theorem dX4_init_25 : decode cX4_init 25 = .ok (.putfield 18, 3) := by decide +kernel
theorem dX4_init_28 : decode cX4_init 28 = .ok (.aload_n 0, 1) := by decide +kernel
theorem dX4_init_29 : decode cX4_init 29 = .ok (.bipush 60, 2) := by decide +kernel
theorem dX4_init_31 : decode cX4_init 31 = .ok (.newarray .int, 2) := by decide +kernel
theorem dX4_init_33 : decode cX4_init 33 = .ok (.putfield 21, 3) := by decide +kernel
theorem dX4_init_36 : decode cX4_init 36 = .ok (.return_, 1) := by decide +kernel
theorem dX4_add_0 : decode cX4_add 0 = .ok (.aload_n 0, 1) := by decide +kernel
theorem dX4_add_1 : decode cX4_add 1 = .ok (.getfield 24, 3) := by decide +kernel
theorem dX4_add_4 : decode cX4_add 4 = .ok (.ifCond .lt 12, 3) := by decide +kernel
theorem dX4_add_7 : decode cX4_add 7 = .ok (.aload_n 0, 1) := by decide +kernel
theorem dX4_add_8 : decode cX4_add 8 = .ok (.getfield 24, 3) := by decide +kernel
theorem dX4_add_11 : decode cX4_add 11 = .ok (.bipush 60, 2) := by decide +kernel
theorem dX4_add_13 : decode cX4_add 13 = .ok (.if_icmp .lt 5, 3) := by decide +kernel
theorem dX4_add_16 : decode cX4_add 16 = .ok (.iconst 0, 1) := by decide +kernel
theorem dX4_add_17 : decode cX4_add 17 = .ok (.ireturn, 1) := by decide +kernel
theorem dX4_add_18 : decode cX4_add 18 = .ok (.aload_n 0, 1) := by decide +kernel
theorem dX4_add_19 : decode cX4_add 19 = .ok (.getfield 11, 3) := by decide +kernel
theorem dX4_add_22 : decode cX4_add 22 = .ok (.aload_n 0, 1) := by decide +kernel
theorem dX4_add_23 : decode cX4_add 23 = .ok (.getfield 24, 3) := by decide +kernel
theorem dX4_add_26 : decode cX4_add 26 = .ok (.iload_n 1, 1) := by decide +kernel
theorem dX4_add_27 : decode cX4_add 27 = .ok (.iastore, 1) := by decide +kernel
theorem dX4_add_28 : decode cX4_add 28 = .ok (.aload_n 0, 1) := by decide +kernel
theorem dX4_add_29 : decode cX4_add 29 = .ok (.dup, 1) := by decide +kernel
theorem dX4_add_30 : decode cX4_add 30 = .ok (.getfield 24, 3) := by decide +kernel
theorem dX4_add_33 : decode cX4_add 33 = .ok (.iconst 1, 1) := by decide +kernel
theorem dX4_add_34 : decode cX4_add 34 = .ok (.iadd, 1) := by decide +kernel
theorem dX4_add_35 : decode cX4_add 35 = .ok (.putfield 24, 3) := by decide +kernel
theorem dX4_add_38 : decode cX4_add 38 = .ok (.iconst 1, 1) := by decide +kernel
theorem dX4_add_39 : decode cX4_add 39 = .ok (.ireturn, 1) := by decide +kernel
theorem dX4_read_0 : decode cX4_read 0 = .ok (.aload_n 0, 1) := by decide +kernel
theorem dX4_read_1 : decode cX4_read 1 = .ok (.iconst 0, 1) := by decide +kernel
theorem dX4_read_2 : decode cX4_read 2 = .ok (.putfield 28, 3) := by decide +kernel
theorem dX4_read_5 : decode cX4_read 5 = .ok (.iconst 0, 1) := by decide +kernel
theorem dX4_read_6 : decode cX4_read 6 = .ok (.istore_n 1, 1) := by decide +kernel
theorem dX4_read_7 : decode cX4_read 7 = .ok (.iconst 0, 1) := by decide +kernel
theorem dX4_read_8 : decode cX4_read 8 = .ok (.istore_n 2, 1) := by decide +kernel
theorem dX4_read_9 : decode cX4_read 9 = .ok (.iconst 0, 1) := by decide +kernel
theorem dX4_read_10 : decode cX4_read 10 = .ok (.istore_n 3, 1) := by decide +kernel
theorem dX4_read_11 : decode cX4_read 11 = .ok (.iload_n 3, 1) := by decide +kernel
theorem dX4_read_12 : decode cX4_read 12 = .ok (.aload_n 0, 1) := by decide +kernel
theorem dX4_read_13 : decode cX4_read 13 = .ok (.getfield 24, 3) := by decide +kernel
theorem dX4_read_16 : decode cX4_read 16 = .ok (.if_icmp .ge 163, 3) := by decide +kernel
theorem dX4_read_19 : decode cX4_read 19 = .ok (.iload_n 3, 1) := by decide +kernel
theorem dX4_read_20 : decode cX4_read 20 = .ok (.bipush 60, 2) := by decide +kernel
theorem dX4_read_22 : decode cX4_read 22 = .ok (.if_icmp .ge 157, 3) := by decide +kernel
theorem dX4_read_25 : decode cX4_read 25 = .ok (.aload_n 0, 1) := by decide +kernel
theorem dX4_read_26 : decode cX4_read 26 = .ok (.getfield 11, 3) := by decide +kernel
theorem dX4_read_29 : decode cX4_read 29 = .ok (.iload_n 3, 1) := by decide +kernel
theorem dX4_read_30 : decode cX4_read 30 = .ok (.iaload, 1) := by decide +kernel
theorem dX4_read_31 : decode cX4_read 31 = .ok (.istore 4, 2) := by decide +kernel
theorem dX4_read_33 : decode cX4_read 33 = .ok (.iload_n 1, 1) := by decide +kernel
theorem dX4_read_34 : decode cX4_read 34 = .ok (.ifCond .ne 22, 3) := by decide +kernel
theorem dX4_read_37 : decode cX4_read 37 = .ok (.iload 4, 2) := by decide +kernel
theorem dX4_read_39 : decode cX4_read 39 = .ok (.invokestatic 31, 3) := by decide +kernel
theorem dX4_read_42 : decode cX4_read 42 = .ok (.ifCond .eq 14, 3) := by decide +kernel
theorem dX4_read_45 : decode cX4_read 45 = .ok (.iload 4, 2) := by decide +kernel
theorem dX4_read_47 : decode cX4_read 47 = .ok (.bipush 65, 2) := by decide +kernel
theorem dX4_read_49 : decode cX4_read 49 = .ok (.isub, 1) := by decide +kernel
theorem dX4_read_50 : decode cX4_read 50 = .ok (.istore_n 2, 1) := by decide +kernel
theorem dX4_read_51 : decode cX4_read 51 = .ok (.iconst 1, 1) := by decide +kernel
theorem dX4_read_52 : decode cX4_read 52 = .ok (.istore_n 1, 1) := by decide +kernel
theorem dX4_read_53 : decode cX4_read 53 = .ok (.goto 120, 3) := by decide +kernel
theorem dX4_read_56 : decode cX4_read 56 = .ok (.iload_n 1, 1) := by decide +kernel
theorem dX4_read_57 : decode cX4_read 57 = .ok (.ifCond .ne 28, 3) := by decide +kernel
theorem dX4_read_60 : decode cX4_read 60 = .ok (.iload 4, 2) := by decide +kernel
theorem dX4_read_62 : decode cX4_read 62 = .ok (.bipush 33, 2) := by decide +kernel
theorem dX4_read_64 : decode cX4_read 64 = .ok (.if_icmp .eq 10, 3) := by decide +kernel
theorem dX4_read_67 : decode cX4_read 67 = .ok (.iload 4, 2) := by decide +kernel
theorem dX4_read_69 : decode cX4_read 69 = .ok (.bipush 46, 2) := by decide +kernel
theorem dX4_read_71 : decode cX4_read 71 = .ok (.if_icmp .ne 14, 3) := by decide +kernel
theorem dX4_read_74 : decode cX4_read 74 = .ok (.aload_n 0, 1) := by decide +kernel
theorem dX4_read_75 : decode cX4_read 75 = .ok (.iload 4, 2) := by decide +kernel
theorem dX4_read_77 : decode cX4_read 77 = .ok (.iconst 0, 1) := by decide +kernel
theorem dX4_read_78 : decode cX4_read 78 = .ok (.iconst 0, 1) := by decide +kernel
theorem dX4_read_79 : decode cX4_read 79 = .ok (.invokevirtual 35, 3) := by decide +kernel
theorem dX4_read_82 : decode cX4_read 82 = .ok (.goto 91, 3) := by decide +kernel
theorem dX4_read_85 : decode cX4_read 85 = .ok (.iload_n 1, 1) := by decide +kernel
theorem dX4_read_86 : decode cX4_read 86 = .ok (.iconst 1, 1) := by decide +kernel
theorem dX4_read_87 : decode cX4_read 87 = .ok (.if_icmp .ne 37, 3) := by decide +kernel
theorem dX4_read_90 : decode cX4_read 90 = .ok (.iload 4, 2) := by decide +kernel
theorem dX4_read_92 : decode cX4_read 92 = .ok (.bipush 98, 2) := by decide +kernel
theorem dX4_read_94 : decode cX4_read 94 = .ok (.if_icmp .eq 17, 3) := by decide +kernel
theorem dX4_read_97 : decode cX4_read 97 = .ok (.iload 4, 2) := by decide +kernel
theorem dX4_read_99 : decode cX4_read 99 = .ok (.bipush 104, 2) := by decide +kernel
theorem dX4_read_101 : decode cX4_read 101 = .ok (.if_icmp .eq 10, 3) := by decide +kernel
theorem dX4_read_104 : decode cX4_read 104 = .ok (.iload 4, 2) := by decide +kernel
theorem dX4_read_106 : decode cX4_read 106 = .ok (.bipush 120, 2) := by decide +kernel
theorem dX4_read_108 : decode cX4_read 108 = .ok (.if_icmp .ne 16, 3) := by decide +kernel
theorem dX4_read_111 : decode cX4_read 111 = .ok (.aload_n 0, 1) := by decide +kernel
theorem dX4_read_112 : decode cX4_read 112 = .ok (.iload 4, 2) := by decide +kernel
theorem dX4_read_114 : decode cX4_read 114 = .ok (.iload_n 2, 1) := by decide +kernel
theorem dX4_read_115 : decode cX4_read 115 = .ok (.iload_n 2, 1) := by decide +kernel
theorem dX4_read_116 : decode cX4_read 116 = .ok (.invokevirtual 35, 3) := by decide +kernel
theorem dX4_read_119 : decode cX4_read 119 = .ok (.iconst 0, 1) := by decide +kernel
theorem dX4_read_120 : decode cX4_read 120 = .ok (.istore_n 1, 1) := by decide +kernel
theorem dX4_read_121 : decode cX4_read 121 = .ok (.goto 52, 3) := by decide +kernel
theorem dX4_read_124 : decode cX4_read 124 = .ok (.iload_n 1, 1) := by decide +kernel
theorem dX4_read_125 : decode cX4_read 125 = .ok (.iconst 1, 1) := by decide +kernel
theorem dX4_read_126 : decode cX4_read 126 = .ok (.if_icmp .ne 15, 3) := by decide +kernel
theorem dX4_read_129 : decode cX4_read 129 = .ok (.iload 4, 2) := by decide +kernel
theorem dX4_read_131 : decode cX4_read 131 = .ok (.bipush 62, 2) := by decide +kernel
theorem dX4_read_133 : decode cX4_read 133 = .ok (.if_icmp .ne 8, 3) := by decide +kernel
theorem dX4_read_136 : decode cX4_read 136 = .ok (.iconst 2, 1) := by decide +kernel
theorem dX4_read_137 : decode cX4_read 137 = .ok (.istore_n 1, 1) := by decide +kernel
theorem dX4_read_138 : decode cX4_read 138 = .ok (.goto 35, 3) := by decide +kernel
theorem dX4_read_141 : decode cX4_read 141 = .ok (.iload_n 1, 1) := by decide +kernel
theorem dX4_read_142 : decode cX4_read 142 = .ok (.iconst 2, 1) := by decide +kernel
theorem dX4_read_143 : decode cX4_read 143 = .ok (.if_icmp .ne 28, 3) := by decide +kernel
theorem dX4_read_146 : decode cX4_read 146 = .ok (.iload 4, 2) := by decide +kernel
theorem dX4_read_148 : decode cX4_read 148 = .ok (.invokestatic 31, 3) := by decide +kernel
theorem dX4_read_151 : decode cX4_read 151 = .ok (.ifCond .eq 20, 3) := by decide +kernel
theorem dX4_read_154 : decode cX4_read 154 = .ok (.aload_n 0, 1) := by decide +kernel
theorem dX4_read_155 : decode cX4_read 155 = .ok (.bipush 62, 2) := by decide +kernel
theorem dX4_read_157 : decode cX4_read 157 = .ok (.iload_n 2, 1) := by decide +kernel
theorem dX4_read_158 : decode cX4_read 158 = .ok (.iload 4, 2) := by decide +kernel
theorem dX4_read_160 : decode cX4_read 160 = .ok (.bipush 65, 2) := by decide +kernel
theorem dX4_read_162 : decode cX4_read 162 = .ok (.isub, 1) := by decide +kernel
theorem dX4_read_163 : decode cX4_read 163 = .ok (.invokevirtual 35, 3) := by decide +kernel
theorem dX4_read_166 : decode cX4_read 166 = .ok (.iconst 0, 1) := by decide +kernel
theorem dX4_read_167 : decode cX4_read 167 = .ok (.istore_n 1, 1) := by decide +kernel
theorem dX4_read_168 : decode cX4_read 168 = .ok (.goto 5, 3) := by decide +kernel
theorem dX4_read_171 : decode cX4_read 171 = .ok (.iload_n 3, 1) := by decide +kernel
theorem dX4_read_172 : decode cX4_read 172 = .ok (.ireturn, 1) := by decide +kernel
theorem dX4_read_173 : decode cX4_read 173 = .ok (.iinc 3 1, 3) := by decide +kernel
theorem dX4_read_176 : decode cX4_read 176 = .ok (.goto (-165), 3) := by decide +kernel
theorem dX4_read_179 : decode cX4_read 179 = .ok (.iload_n 1, 1) := by decide +kernel
theorem dX4_read_180 : decode cX4_read 180 = .ok (.ifCond .ne 8, 3) := by decide +kernel
theorem dX4_read_183 : decode cX4_read 183 = .ok (.bipush (-6), 2) := by decide +kernel
theorem dX4_read_185 : decode cX4_read 185 = .ok (.goto 7, 3) := by decide +kernel
theorem dX4_read_188 : decode cX4_read 188 = .ok (.aload_n 0, 1) := by decide +kernel
theorem dX4_read_189 : decode cX4_read 189 = .ok (.getfield 24, 3) := by decide +kernel
theorem dX4_read_192 : decode cX4_read 192 = .ok (.ireturn, 1) := by decide +kernel
theorem dX4_addAct_0 : decode cX4_addAct 0 = .ok (.aload_n 0, 1) := by decide +kernel
theorem dX4_addAct_1 : decode cX4_addAct 1 = .ok (.getfield 28, 3) := by decide +kernel
theorem dX4_addAct_4 : decode cX4_addAct 4 = .ok (.ifCond .lt 52, 3) := by decide +kernel
theorem dX4_addAct_7 : decode cX4_addAct 7 = .ok (.aload_n 0, 1) := by decide +kernel
theorem dX4_addAct_8 : decode cX4_addAct 8 = .ok (.getfield 28, 3) := by decide +kernel
theorem dX4_addAct_11 : decode cX4_addAct 11 = .ok (.bipush 60, 2) := by decide +kernel
theorem dX4_addAct_13 : decode cX4_addAct 13 = .ok (.if_icmp .ge 43, 3) := by decide +kernel
theorem dX4_addAct_16 : decode cX4_addAct 16 = .ok (.aload_n 0, 1) := by decide +kernel
theorem dX4_addAct_17 : decode cX4_addAct 17 = .ok (.getfield 15, 3) := by decide +kernel
theorem dX4_addAct_20 : decode cX4_addAct 20 = .ok (.aload_n 0, 1) := by decide +kernel
theorem dX4_addAct_21 : decode cX4_addAct 21 = .ok (.getfield 28, 3) := by decide +kernel
theorem dX4_addAct_24 : decode cX4_addAct 24 = .ok (.iload_n 1, 1) := by decide +kernel
theorem dX4_addAct_25 : decode cX4_addAct 25 = .ok (.iastore, 1) := by decide +kernel
theorem dX4_addAct_26 : decode cX4_addAct 26 = .ok (.aload_n 0, 1) := by decide +kernel
theorem dX4_addAct_27 : decode cX4_addAct 27 = .ok (.getfield 18, 3) := by decide +kernel
theorem dX4_addAct_30 : decode cX4_addAct 30 = .ok (.aload_n 0, 1) := by decide +kernel
theorem dX4_addAct_31 : decode cX4_addAct 31 = .ok (.getfield 28, 3) := by decide +kernel
theorem dX4_addAct_34 : decode cX4_addAct 34 = .ok (.iload_n 2, 1) := by decide +kernel
theorem dX4_addAct_35 : decode cX4_addAct 35 = .ok (.iastore, 1) := by decide +kernel
theorem dX4_addAct_36 : decode cX4_addAct 36 = .ok (.aload_n 0, 1) := by decide +kernel
theorem dX4_addAct_37 : decode cX4_addAct 37 = .ok (.getfield 21, 3) := by decide +kernel
theorem dX4_addAct_40 : decode cX4_addAct 40 = .ok (.aload_n 0, 1) := by decide +kernel
theorem dX4_addAct_41 : decode cX4_addAct 41 = .ok (.getfield 28, 3) := by decide +kernel
theorem dX4_addAct_44 : decode cX4_addAct 44 = .ok (.iload_n 3, 1) := by decide +kernel
theorem dX4_addAct_45 : decode cX4_addAct 45 = .ok (.iastore, 1) := by decide +kernel
theorem dX4_addAct_46 : decode cX4_addAct 46 = .ok (.aload_n 0, 1) := by decide +kernel
theorem dX4_addAct_47 : decode cX4_addAct 47 = .ok (.dup, 1) := by decide +kernel
theorem dX4_addAct_48 : decode cX4_addAct 48 = .ok (.getfield 28, 3) := by decide +kernel
theorem dX4_addAct_51 : decode cX4_addAct 51 = .ok (.iconst 1, 1) := by decide +kernel
theorem dX4_addAct_52 : decode cX4_addAct 52 = .ok (.iadd, 1) := by decide +kernel
theorem dX4_addAct_53 : decode cX4_addAct 53 = .ok (.putfield 28, 3) := by decide +kernel
theorem dX4_addAct_56 : decode cX4_addAct 56 = .ok (.return_, 1) := by decide +kernel
theorem dX8_init_0 : decode cX8_init 0 = .ok (.aload_n 0, 1) := by decide +kernel
theorem dX8_init_1 : decode cX8_init 1 = .ok (.invokespecial 3, 3) := by decide +kernel
theorem dX8_init_4 : decode cX8_init 4 = .ok (.aload_n 0, 1) := by decide +kernel
theorem dX8_init_5 : decode cX8_init 5 = .ok (.new 9, 3) := by decide +kernel
theorem dX8_init_8 : decode cX8_init 8 = .ok (.dup, 1) := by decide +kernel
theorem dX8_init_9 : decode cX8_init 9 = .ok (.invokespecial 11, 3) := by decide +kernel
theorem dX8_init_12 : decode cX8_init 12 = .ok (.putfield 12, 3) := by decide +kernel
theorem dX8_init_15 : decode cX8_init 15 = .ok (.return_, 1) := by decide +kernel
theorem dX8_live_0 : decode cX8_live 0 = .ok (.aload_n 0, 1) := by decide +kernel
theorem dX8_live_1 : decode cX8_live 1 = .ok (.getfield 12, 3) := by decide +kernel
theorem dX8_live_4 : decode cX8_live 4 = .ok (.aload_n 1, 1) := by decide +kernel
theorem dX8_live_5 : decode cX8_live 5 = .ok (.invokevirtual 18, 3) := by decide +kernel
theorem dX8_live_8 : decode cX8_live 8 = .ok (.aload_n 0, 1) := by decide +kernel
theorem dX8_live_9 : decode cX8_live 9 = .ok (.iconst 0, 1) := by decide +kernel
theorem dX8_live_10 : decode cX8_live 10 = .ok (.putfield 22, 3) := by decide +kernel
theorem dX8_live_13 : decode cX8_live 13 = .ok (.iload_n 2, 1) := by decide +kernel
theorem dX8_live_14 : decode cX8_live 14 = .ok (.istore 4, 2) := by decide +kernel
theorem dX8_live_16 : decode cX8_live 16 = .ok (.iconst 0, 1) := by decide +kernel
theorem dX8_live_17 : decode cX8_live 17 = .ok (.istore 5, 2) := by decide +kernel
theorem dX8_live_19 : decode cX8_live 19 = .ok (.iload 5, 2) := by decide +kernel
theorem dX8_live_21 : decode cX8_live 21 = .ok (.iload_n 3, 1) := by decide +kernel
theorem dX8_live_22 : decode cX8_live 22 = .ok (.if_icmp .ge 78, 3) := by decide +kernel
theorem dX8_live_25 : decode cX8_live 25 = .ok (.bipush 75, 2) := by decide +kernel
theorem dX8_live_27 : decode cX8_live 27 = .ok (.iload 4, 2) := by decide +kernel
theorem dX8_live_29 : decode cX8_live 29 = .ok (.imul, 1) := by decide +kernel
theorem dX8_live_30 : decode cX8_live 30 = .ok (.bipush 74, 2) := by decide +kernel
theorem dX8_live_32 : decode cX8_live 32 = .ok (.iadd, 1) := by decide +kernel
theorem dX8_live_33 : decode cX8_live 33 = .ok (.ldc 26, 2) := by decide +kernel
theorem dX8_live_35 : decode cX8_live 35 = .ok (.irem, 1) := by decide +kernel
theorem dX8_live_36 : decode cX8_live 36 = .ok (.istore 4, 2) := by decide +kernel
theorem dX8_live_38 : decode cX8_live 38 = .ok (.iload 4, 2) := by decide +kernel
theorem dX8_live_40 : decode cX8_live 40 = .ok (.bipush 6, 2) := by decide +kernel
theorem dX8_live_42 : decode cX8_live 42 = .ok (.idiv, 1) := by decide +kernel
theorem dX8_live_43 : decode cX8_live 43 = .ok (.bipush 7, 2) := by decide +kernel
theorem dX8_live_45 : decode cX8_live 45 = .ok (.irem, 1) := by decide +kernel
theorem dX8_live_46 : decode cX8_live 46 = .ok (.invokestatic 27, 3) := by decide +kernel
theorem dX8_live_49 : decode cX8_live 49 = .ok (.istore 6, 2) := by decide +kernel
theorem dX8_live_51 : decode cX8_live 51 = .ok (.aload_n 0, 1) := by decide +kernel
theorem dX8_live_52 : decode cX8_live 52 = .ok (.getfield 12, 3) := by decide +kernel
theorem dX8_live_55 : decode cX8_live 55 = .ok (.iload 6, 2) := by decide +kernel
theorem dX8_live_57 : decode cX8_live 57 = .ok (.iload 4, 2) := by decide +kernel
theorem dX8_live_59 : decode cX8_live 59 = .ok (.bipush 6, 2) := by decide +kernel
theorem dX8_live_61 : decode cX8_live 61 = .ok (.irem, 1) := by decide +kernel
theorem dX8_live_62 : decode cX8_live 62 = .ok (.iload 4, 2) := by decide +kernel
theorem dX8_live_64 : decode cX8_live 64 = .ok (.bipush 42, 2) := by decide +kernel
theorem dX8_live_66 : decode cX8_live 66 = .ok (.idiv, 1) := by decide +kernel
theorem dX8_live_67 : decode cX8_live 67 = .ok (.bipush 6, 2) := by decide +kernel
theorem dX8_live_69 : decode cX8_live 69 = .ok (.irem, 1) := by decide +kernel
theorem dX8_live_70 : decode cX8_live 70 = .ok (.invokevirtual 31, 3) := by decide +kernel
theorem dX8_live_73 : decode cX8_live 73 = .ok (.aload_n 0, 1) := by decide +kernel
theorem dX8_live_74 : decode cX8_live 74 = .ok (.dup, 1) := by decide +kernel
theorem dX8_live_75 : decode cX8_live 75 = .ok (.getfield 22, 3) := by decide +kernel
theorem dX8_live_78 : decode cX8_live 78 = .ok (.iload 6, 2) := by decide +kernel
theorem dX8_live_80 : decode cX8_live 80 = .ok (.bipush 46, 2) := by decide +kernel
theorem dX8_live_82 : decode cX8_live 82 = .ok (.if_icmp .ne 7, 3) := by decide +kernel
theorem dX8_live_85 : decode cX8_live 85 = .ok (.iconst 1, 1) := by decide +kernel
theorem dX8_live_86 : decode cX8_live 86 = .ok (.goto 4, 3) := by decide +kernel
theorem dX8_live_89 : decode cX8_live 89 = .ok (.iconst 0, 1) := by decide +kernel
theorem dX8_live_90 : decode cX8_live 90 = .ok (.iadd, 1) := by decide +kernel
theorem dX8_live_91 : decode cX8_live 91 = .ok (.putfield 22, 3) := by decide +kernel
theorem dX8_live_94 : decode cX8_live 94 = .ok (.iinc 5 1, 3) := by decide +kernel
theorem dX8_live_97 : decode cX8_live 97 = .ok (.goto (-78), 3) := by decide +kernel
theorem dX8_live_100 : decode cX8_live 100 = .ok (.return_, 1) := by decide +kernel
theorem b_X0_live_0 {l : Launch} {z d : Nat} {X : jX} {M : Nat → Int → Int} {Q : Option jV → jM → Prop}    (k1 : J l z X (d + 3) mX1_takeOver (0, 0) 0 [jR 12, jR 1] [] (jG, M) (fun r μ => J l z X (d + 4) mX0_live (0, 0) 8 [jR 11, jR 1, jR 6, jN, jN, jN] (r.toList ++ []) μ Q)) : J l z X (d + 4) mX0_live (0, 0) 0 [jR 11, jR 1, jR 6, jN, jN, jN] [] (jG, M) Q :=
  (J_aload_n dX0_live_0 rfl (J_getR (k := 0) jcl_X0 dX0_live_1 wf_X0_12 g_11 (Nat.le_of_ble_eq_true rfl) rfl rfl (J_aload_n dX0_live_4 rfl (J_callV (a1 := (0, 0)) (a2 := (0, 0)) (mm' := mX1_takeOver) (S := []) [jR 1] md_X1_takeOver im_X1_takeOver se_X1_takeOver dX0_live_5 wm_X0_27 jcl_X1.1 rfl g_12 rfl rfl (Nat.le_of_ble_eq_true rfl) (Nat.le_of_ble_eq_true rfl) rfl k1))))
theorem b_X0_live_8 {l : Launch} {z d : Nat} {X : jX} {M : Nat → Int → Int} {Q : Option jV → jM → Prop}    (k1 : J l z X (d + 4) mX0_live (0, 0) 39 [jR 11, jR 1, jR 6, jI 0, jN, jN] [] (jG, (jupd (jupd (jupd (jupd (jupd M 11 3 0) 11 4 (-6)) 11 5 (-6)) 11 6 (-6)) 11 7 (-6))) Q) : J l z X (d + 4) mX0_live (0, 0) 8 [jR 11, jR 1, jR 6, jN, jN, jN] [] (jG, M) Q :=
  (J_aload_n dX0_live_8 rfl (J_iconst dX0_live_9 jc_0 (J_putI (k := 3) (kz := 3) jcl_X0 dX0_live_10 wf_X0_31 g_11 (Nat.le_of_ble_eq_true rfl) rfl rfl rfl (J_aload_n dX0_live_13 rfl (J_bipush dX0_live_14 jc_m6 jb_m6 (J_putI (k := 4) (kz := 4) jcl_X0 dX0_live_16 wf_X0_35 g_11 (Nat.le_of_ble_eq_true rfl) rfl rfl rfl (J_aload_n dX0_live_19 rfl (J_bipush dX0_live_20 jc_m6 jb_m6 (J_putI (k := 5) (kz := 5) jcl_X0 dX0_live_22 wf_X0_38 g_11 (Nat.le_of_ble_eq_true rfl) rfl rfl rfl (J_aload_n dX0_live_25 rfl (J_bipush dX0_live_26 jc_m6 jb_m6 (J_putI (k := 6) (kz := 6) jcl_X0 dX0_live_28 wf_X0_41 g_11 (Nat.le_of_ble_eq_true rfl) rfl rfl rfl (J_aload_n dX0_live_31 rfl (J_bipush dX0_live_32 jc_m6 jb_m6 (J_putI (k := 7) (kz := 7) jcl_X0 dX0_live_34 wf_X0_44 g_11 (Nat.le_of_ble_eq_true rfl) rfl rfl rfl (J_iconst dX0_live_37 jc_0 (J_istore_n dX0_live_38 (Nat.le_of_ble_eq_true rfl) k1)))))))))))))))))
theorem b_X0_live_39 {l : Launch} {z d : Nat} {X : jX} {M : Nat → Int → Int} {Q : Option jV → jM → Prop} {x3 : Int}  (s1 : x3 < (M 6 5) → x3 < 60 → 0 ≤ x3) (s2 : x3 < (M 6 5) → x3 < 60 → x3 < 60) (k1 : (M 6 5) ≤ x3 → Q none (jG, M)) (k2 : x3 < (M 6 5) → 60 ≤ x3 → Q none (jG, M)) (k3 : x3 < (M 6 5) → x3 < 60 → J l z X (d + 3) mX1_whyNot (0, 0) 0 [jR 12, jI (M 8 x3), jI (M 9 x3), jI (M 10 x3), jN] [] (jG, M) (fun r μ => J l z X (d + 4) mX0_live (0, 0) 82 [jR 11, jR 1, jR 6, jI x3, jI (M 8 x3), jN] (r.toList ++ []) μ Q)) : J l z X (d + 4) mX0_live (0, 0) 39 [jR 11, jR 1, jR 6, jI x3, jN, jN] [] (jG, M) Q :=
  (J_iload_n dX0_live_39 rfl (J_aload_n dX0_live_40 rfl (J_getIN (k := 5) (kz := 5) jcl_X4 dX0_live_41 wf_X0_47 g_6 (Nat.le_of_ble_eq_true rfl) rfl rfl (J_icmp_ge dX0_live_44 (tgt := 164) (by decide) (fun c1 => (J_vret dX0_live_164 rfl (k1 c1))) (fun c1 => (J_iload_n dX0_live_47 rfl (J_bipush dX0_live_48 jc_60 jb_60 (J_icmp_ge dX0_live_50 (tgt := 164) (by decide) (fun c2 => (J_vret dX0_live_164 rfl (k2 c1 c2))) (fun c2 => (J_aload_n dX0_live_53 rfl (J_getRN (k := 1) jcl_X4 dX0_live_54 wf_X0_50 g_6 (Nat.le_of_ble_eq_true rfl) rfl rfl (J_iload_n dX0_live_57 rfl (J_iald dX0_live_58 g_8 (s1 c1 c2) (s2 c1 c2) (J_istore dX0_live_59 (Nat.le_of_ble_eq_true rfl) (J_aload_n dX0_live_61 rfl (J_getR (k := 0) jcl_X0 dX0_live_62 wf_X0_12 g_11 (Nat.le_of_ble_eq_true rfl) rfl rfl (J_iload dX0_live_65 rfl (J_aload_n dX0_live_67 rfl (J_getRN (k := 2) jcl_X4 dX0_live_68 wf_X0_53 g_6 (Nat.le_of_ble_eq_true rfl) rfl rfl (J_iload_n dX0_live_71 rfl (J_iald dX0_live_72 g_9 (s1 c1 c2) (s2 c1 c2) (J_aload_n dX0_live_73 rfl (J_getRN (k := 3) jcl_X4 dX0_live_74 wf_X0_56 g_6 (Nat.le_of_ble_eq_true rfl) rfl rfl (J_iload_n dX0_live_77 rfl (J_iald dX0_live_78 g_10 (s1 c1 c2) (s2 c1 c2) (J_callV (a1 := (0, 0)) (a2 := (0, 0)) (mm' := mX1_whyNot) (S := []) [jI (M 8 x3), jI (M 9 x3), jI (M 10 x3)] md_X1_whyNot im_X1_whyNot se_X1_whyNot dX0_live_79 wm_X0_59 jcl_X1.1 rfl g_12 rfl rfl (Nat.le_of_ble_eq_true rfl) (Nat.le_of_ble_eq_true rfl) rfl (k3 c1 c2)))))))))))))))))))))))))))
theorem b_X0_live_82 {l : Launch} {z d : Nat} {X : jX} {M : Nat → Int → Int} {Q : Option jV → jM → Prop} {x3 : Int} {x4 : Int} {t0 : Int}   (k1 : t0 = 0 → x4 ≠ 46 → J l z X (d + 4) mX0_live (0, 0) 126 [jR 11, jR 1, jR 6, jI x3, jI x4, jI t0] [] (jG, M) Q) (k2 : t0 = 0 → x4 = 46 → J l z X (d + 4) mX0_live (0, 0) 126 [jR 11, jR 1, jR 6, jI x3, jI x4, jI t0] [] (jG, (jcpy M 13 17 6)) Q) (k3 : t0 ≠ 0 → Q none (jG, (jupd (jupd M 11 4 x3) 11 5 t0))) : J l z X (d + 4) mX0_live (0, 0) 82 [jR 11, jR 1, jR 6, jI x3, jI x4, jN] [jI t0] (jG, M) Q :=
  (J_istore dX0_live_82 (Nat.le_of_ble_eq_true rfl) (J_iload dX0_live_84 rfl (J_if_eq dX0_live_86 (tgt := 101) (by decide) (fun c1 => (J_iload dX0_live_101 rfl (J_bipush dX0_live_103 jc_46 jb_46 (J_icmp_ne dX0_live_105 (tgt := 126) (by decide) (fun c2 => (k1 c1 c2)) (fun c2 => (J_aload_n dX0_live_108 rfl (J_getR (k := 0) jcl_X0 dX0_live_109 wf_X0_12 g_11 (Nat.le_of_ble_eq_true rfl) rfl rfl (J_getRN (k := 0) jcl_X1 dX0_live_112 wf_X0_63 g_12 (Nat.le_of_ble_eq_true rfl) rfl rfl (J_iconst dX0_live_115 jc_0 (J_aload_n dX0_live_116 rfl (J_getR (k := 1) jcl_X0 dX0_live_117 wf_X0_18 g_11 (Nat.le_of_ble_eq_true rfl) rfl rfl (J_iconst dX0_live_120 jc_0 (J_bipush dX0_live_121 jc_6 jb_6 (J_acopy dX0_live_123 wm_X0_66 wac_1 wac_2 wac_3 g_13 g_17 (by decide) (by decide) (by decide) (by decide) (Nat.succ_le_succ (Nat.zero_le _)) (k2 c1 c2))))))))))))))) (fun c1 => (J_aload_n dX0_live_89 rfl (J_iload_n dX0_live_90 rfl (J_putI (k := 4) (kz := 4) jcl_X0 dX0_live_91 wf_X0_35 g_11 (Nat.le_of_ble_eq_true rfl) rfl rfl rfl (J_aload_n dX0_live_94 rfl (J_iload dX0_live_95 rfl (J_putI (k := 5) (kz := 5) jcl_X0 dX0_live_97 wf_X0_38 g_11 (Nat.le_of_ble_eq_true rfl) rfl rfl rfl (J_vret dX0_live_100 rfl (k3 c1))))))))))))
theorem b_X0_live_126 {l : Launch} {z d : Nat} {X : jX} {M : Nat → Int → Int} {Q : Option jV → jM → Prop} {x3 : Int} {x4 : Int} {x5 : Int}  (s1 : 0 ≤ x3) (s2 : x3 < 60) (k1 : J l z X (d + 3) mX1_act (0, 0) 0 [jR 12, jI x4, jI (M 9 x3), jI (M 10 x3)] [] (jG, M) (fun r μ => J l z X (d + 4) mX0_live (0, 0) 147 [jR 11, jR 1, jR 6, jI x3, jI x4, jI x5] (r.toList ++ []) μ Q)) : J l z X (d + 4) mX0_live (0, 0) 126 [jR 11, jR 1, jR 6, jI x3, jI x4, jI x5] [] (jG, M) Q :=
  (J_aload_n dX0_live_126 rfl (J_getR (k := 0) jcl_X0 dX0_live_127 wf_X0_12 g_11 (Nat.le_of_ble_eq_true rfl) rfl rfl (J_iload dX0_live_130 rfl (J_aload_n dX0_live_132 rfl (J_getRN (k := 2) jcl_X4 dX0_live_133 wf_X0_53 g_6 (Nat.le_of_ble_eq_true rfl) rfl rfl (J_iload_n dX0_live_136 rfl (J_iald dX0_live_137 g_9 s1 s2 (J_aload_n dX0_live_138 rfl (J_getRN (k := 3) jcl_X4 dX0_live_139 wf_X0_56 g_6 (Nat.le_of_ble_eq_true rfl) rfl rfl (J_iload_n dX0_live_142 rfl (J_iald dX0_live_143 g_10 s1 s2 (J_callV (a1 := (0, 0)) (a2 := (0, 0)) (mm' := mX1_act) (S := []) [jI x4, jI (M 9 x3), jI (M 10 x3)] md_X1_act im_X1_act se_X1_act dX0_live_144 wm_X0_72 jcl_X1.1 rfl g_12 rfl rfl (Nat.le_of_ble_eq_true rfl) (Nat.le_of_ble_eq_true rfl) rfl k1))))))))))))
theorem b_X0_live_147 {l : Launch} {z d : Nat} {X : jX} {M : Nat → Int → Int} {Q : Option jV → jM → Prop} {x3 : Int} {x4 : Int} {x5 : Int}   (k1 : x4 ≠ 46 → J l z X (d + 4) mX0_live (0, 0) 158 [jR 11, jR 1, jR 6, jI x3, jI x4, jI x5] [] (jG, M) Q) (k2 : x4 = 46 → J l z X (d + 3) mX0_tellMorning (0, 0) 0 [jR 11] [] (jG, M) (fun r μ => J l z X (d + 4) mX0_live (0, 0) 158 [jR 11, jR 1, jR 6, jI x3, jI x4, jI x5] (r.toList ++ []) μ Q)) : J l z X (d + 4) mX0_live (0, 0) 147 [jR 11, jR 1, jR 6, jI x3, jI x4, jI x5] [] (jG, M) Q :=
  (J_iload dX0_live_147 rfl (J_bipush dX0_live_149 jc_46 jb_46 (J_icmp_ne dX0_live_151 (tgt := 158) (by decide) (fun c1 => (k1 c1)) (fun c1 => (J_aload_n dX0_live_154 rfl (J_callV (a1 := (0, 0)) (a2 := (0, 0)) (mm' := mX0_tellMorning) (S := []) [] md_X0_tellMorning im_X0_tellMorning se_X0_tellMorning dX0_live_155 wm_X0_76 jcl_X0.1 rfl g_11 rfl rfl (Nat.le_of_ble_eq_true rfl) (Nat.le_of_ble_eq_true rfl) rfl (k2 c1)))))))
theorem b_X0_live_158 {l : Launch} {z d : Nat} {X : jX} {M : Nat → Int → Int} {Q : Option jV → jM → Prop} {x3 : Int} {x4 : Int} {x5 : Int}  (s1 : jIn (x3 + 1)) (k1 : J l z X (d + 4) mX0_live (0, 0) 39 [jR 11, jR 1, jR 6, jI (x3 + 1), jN, jN] [] (jG, M) Q) : J l z X (d + 4) mX0_live (0, 0) 158 [jR 11, jR 1, jR 6, jI x3, jI x4, jI x5] [] (jG, M) Q :=
  (J_iinc dX0_live_158 rfl jc_1 s1 (J_goto dX0_live_161 (tgt := 39) (by decide) (J_weak [jR 11, jR 1, jR 6, jI (x3 + 1), jN, jN] ⟨Or.inr rfl, Or.inr rfl, Or.inr rfl, Or.inr rfl, Or.inl rfl, Or.inl rfl, trivial⟩ k1)))
theorem b_X0_tellMorning_0 {l : Launch} {z d : Nat} {X : jX} {M : Nat → Int → Int} {Q : Option jV → jM → Prop}    (k1 : (M 11 3) < 0 → Q none (jG, M)) (k2 : 0 ≤ (M 11 3) → (M 11 3) < 60 → (M 11 7) ≠ (-6) → J l z X (d + 3) mX0_tellMorning (0, 0) 59 [jR 11] [] (jG, M) Q) (k3 : 0 ≤ (M 11 3) → (M 11 3) < 60 → (M 11 7) = (-6) → J l z X (d + 2) mX0_leastPass (0, 0) 0 [jR 11, jN, jN] [] (jG, M) (fun r μ => J l z X (d + 3) mX0_tellMorning (0, 0) 34 [jR 11] (r.toList ++ [jR 11]) μ Q)) (k4 : 0 ≤ (M 11 3) → 60 ≤ (M 11 3) → Q none (jG, M)) : J l z X (d + 3) mX0_tellMorning (0, 0) 0 [jR 11] [] (jG, M) Q :=
  (J_aload_n dX0_tellMorning_0 rfl (J_getI (k := 3) (kz := 3) jcl_X0 dX0_tellMorning_1 wf_X0_31 g_11 (Nat.le_of_ble_eq_true rfl) rfl rfl (J_if_lt dX0_tellMorning_4 (tgt := 19) (by decide) (fun c1 => (J_vret dX0_tellMorning_19 rfl (k1 c1))) (fun c1 => (J_aload_n dX0_tellMorning_7 rfl (J_getI (k := 3) (kz := 3) jcl_X0 dX0_tellMorning_8 wf_X0_31 g_11 (Nat.le_of_ble_eq_true rfl) rfl rfl (J_aload_n dX0_tellMorning_11 rfl (J_getR (k := 2) jcl_X0 dX0_tellMorning_12 wf_X0_24 g_11 (Nat.le_of_ble_eq_true rfl) rfl rfl (J_alen0 dX0_tellMorning_15 g_18 (Nat.le_of_ble_eq_true rfl) (J_icmp_lt dX0_tellMorning_16 (tgt := 20) (by decide) (fun c2 => (J_aload_n dX0_tellMorning_20 rfl (J_getI (k := 7) (kz := 7) jcl_X0 dX0_tellMorning_21 wf_X0_44 g_11 (Nat.le_of_ble_eq_true rfl) rfl rfl (J_bipush dX0_tellMorning_24 jc_m6 jb_m6 (J_icmp_ne dX0_tellMorning_26 (tgt := 59) (by decide) (fun c3 => (k2 c1 c2 c3)) (fun c3 => (J_aload_n dX0_tellMorning_29 rfl (J_aload_n dX0_tellMorning_30 rfl (J_callV (a1 := (0, 0)) (a2 := (0, 0)) (mm' := mX0_leastPass) (S := [jR 11]) [] md_X0_leastPass im_X0_leastPass se_X0_leastPass dX0_tellMorning_31 wm_X0_79 jcl_X0.1 rfl g_11 rfl rfl (Nat.le_of_ble_eq_true rfl) (Nat.le_of_ble_eq_true rfl) rfl (k3 c1 c2 c3)))))))))) (fun c2 => (J_vret dX0_tellMorning_19 rfl (k4 c1 c2)))))))))))))
theorem b_X0_tellMorning_34 {l : Launch} {z d : Nat} {X : jX} {M : Nat → Int → Int} {Q : Option jV → jM → Prop} {t1 : Int}   (k1 : ((jupd M 11 7 t1) 11 7) ≠ (-6) → J l z X (d + 3) mX0_tellMorning (0, 0) 56 [jR 11] [jI ((jupd M 11 7 t1) 11 3), jR 11] (jG, (jupd M 11 7 t1)) Q) (k2 : ((jupd M 11 7 t1) 11 7) = (-6) → J l z X (d + 3) mX0_tellMorning (0, 0) 56 [jR 11] [jI (-6), jR 11] (jG, (jupd M 11 7 t1)) Q) : J l z X (d + 3) mX0_tellMorning (0, 0) 34 [jR 11] [jI t1, jR 11] (jG, M) Q :=
  (J_putI (k := 7) (kz := 7) jcl_X0 dX0_tellMorning_34 wf_X0_44 g_11 (Nat.le_of_ble_eq_true rfl) rfl rfl rfl (J_aload_n dX0_tellMorning_37 rfl (J_aload_n dX0_tellMorning_38 rfl (J_getI (k := 7) (kz := 7) jcl_X0 dX0_tellMorning_39 wf_X0_44 g_11 (Nat.le_of_ble_eq_true rfl) rfl rfl (J_bipush dX0_tellMorning_42 jc_m6 jb_m6 (J_icmp_ne dX0_tellMorning_44 (tgt := 52) (by decide) (fun c1 => (J_aload_n dX0_tellMorning_52 rfl (J_getI (k := 3) (kz := 3) jcl_X0 dX0_tellMorning_53 wf_X0_31 g_11 (Nat.le_of_ble_eq_true rfl) rfl rfl (k1 c1)))) (fun c1 => (J_bipush dX0_tellMorning_47 jc_m6 jb_m6 (J_goto dX0_tellMorning_49 (tgt := 56) (by decide) (k2 c1))))))))))
theorem b_X0_tellMorning_56 {l : Launch} {z d : Nat} {X : jX} {M : Nat → Int → Int} {Q : Option jV → jM → Prop} {t1 : Int}   (k1 : J l z X (d + 3) mX0_tellMorning (0, 0) 59 [jR 11] [] (jG, (jupd M 11 6 t1)) Q) : J l z X (d + 3) mX0_tellMorning (0, 0) 56 [jR 11] [jI t1, jR 11] (jG, M) Q :=
  (J_putI (k := 6) (kz := 6) jcl_X0 dX0_tellMorning_56 wf_X0_41 g_11 (Nat.le_of_ble_eq_true rfl) rfl rfl rfl k1)
theorem b_X0_tellMorning_59 {l : Launch} {z d : Nat} {X : jX} {M : Nat → Int → Int} {Q : Option jV → jM → Prop}    (k1 : J l z X (d + 2) mX1_oldestOne (0, 0) 0 [jR 12, jN, jN, jN] [] (jG, M) (fun r μ => J l z X (d + 3) mX0_tellMorning (0, 0) 74 [jR 11] (r.toList ++ [jI (M 11 3), jR 18]) μ Q)) : J l z X (d + 3) mX0_tellMorning (0, 0) 59 [jR 11] [] (jG, M) Q :=
  (J_aload_n dX0_tellMorning_59 rfl (J_getR (k := 2) jcl_X0 dX0_tellMorning_60 wf_X0_24 g_11 (Nat.le_of_ble_eq_true rfl) rfl rfl (J_aload_n dX0_tellMorning_63 rfl (J_getI (k := 3) (kz := 3) jcl_X0 dX0_tellMorning_64 wf_X0_31 g_11 (Nat.le_of_ble_eq_true rfl) rfl rfl (J_aload_n dX0_tellMorning_67 rfl (J_getR (k := 0) jcl_X0 dX0_tellMorning_68 wf_X0_12 g_11 (Nat.le_of_ble_eq_true rfl) rfl rfl (J_callV (a1 := (0, 0)) (a2 := (0, 0)) (mm' := mX1_oldestOne) (S := [jI (M 11 3), jR 18]) [] md_X1_oldestOne im_X1_oldestOne se_X1_oldestOne dX0_tellMorning_71 wm_X0_83 jcl_X1.1 rfl g_12 rfl rfl (Nat.le_of_ble_eq_true rfl) (Nat.le_of_ble_eq_true rfl) rfl k1)))))))
theorem b_X0_tellMorning_74 {l : Launch} {z d : Nat} {X : jX} {M : Nat → Int → Int} {Q : Option jV → jM → Prop} {t1 : Int} {t2 : Int}  (s1 : 0 ≤ t1) (s2 : t1 < 60) (s3 : jIn (((jupd M 18 t1 t2) 11 3) + 1)) (k1 : Q none (jG, (jupd (jupd M 18 t1 t2) 11 3 (((jupd M 18 t1 t2) 11 3) + 1)))) : J l z X (d + 3) mX0_tellMorning (0, 0) 74 [jR 11] [jI t2, jI t1, jR 18] (jG, M) Q :=
  (J_iast dX0_tellMorning_74 g_18 s1 s2 (J_aload_n dX0_tellMorning_75 rfl (J_dupR dX0_tellMorning_76 (J_getI (k := 3) (kz := 3) jcl_X0 dX0_tellMorning_77 wf_X0_31 g_11 (Nat.le_of_ble_eq_true rfl) rfl rfl (J_iconst dX0_tellMorning_80 jc_1 (J_iadd dX0_tellMorning_81 s3 (J_putI (k := 3) (kz := 3) jcl_X0 dX0_tellMorning_82 wf_X0_31 g_11 (Nat.le_of_ble_eq_true rfl) rfl rfl rfl (J_vret dX0_tellMorning_85 rfl k1))))))))
theorem b_X0_leastPass_0 {l : Launch} {z d : Nat} {X : jX} {M : Nat → Int → Int} {Q : Option jV → jM → Prop}    (k1 : J l z X (d + 2) mX0_leastPass (0, 0) 2 [jR 11, jI 0, jN] [] (jG, M) Q) : J l z X (d + 2) mX0_leastPass (0, 0) 0 [jR 11, jN, jN] [] (jG, M) Q :=
  (J_iconst dX0_leastPass_0 jc_0 (J_istore_n dX0_leastPass_1 (Nat.le_of_ble_eq_true rfl) k1))
theorem b_X0_leastPass_2 {l : Launch} {z d : Nat} {X : jX} {M : Nat → Int → Int} {Q : Option jV → jM → Prop} {x1 : Int}  (s1 : x1 < 6 → jIn (x1 + 1)) (k1 : 6 ≤ x1 → Q (some (jI (-6))) (jG, M)) (k2 : x1 < 6 → J l z X (d + 2) mX0_leastPass (0, 0) 12 [jR 11, jI x1, jI (x1 + 1)] [] (jG, M) Q) : J l z X (d + 2) mX0_leastPass (0, 0) 2 [jR 11, jI x1, jN] [] (jG, M) Q :=
  (J_iload_n dX0_leastPass_2 rfl (J_bipush dX0_leastPass_3 jc_6 jb_6 (J_icmp_ge dX0_leastPass_5 (tgt := 68) (by decide) (fun c1 => (J_bipush dX0_leastPass_68 jc_m6 jb_m6 (J_iret dX0_leastPass_70 rfl (k1 c1)))) (fun c1 => (J_iload_n dX0_leastPass_8 rfl (J_iconst dX0_leastPass_9 jc_1 (J_iadd dX0_leastPass_10 (s1 c1) (J_istore_n dX0_leastPass_11 (Nat.le_of_ble_eq_true rfl) (k2 c1)))))))))
theorem b_X0_leastPass_12 {l : Launch} {z d : Nat} {X : jX} {M : Nat → Int → Int} {Q : Option jV → jM → Prop} {x1 : Int} {x2 : Int}  (s1 : 6 ≤ x2 → jIn (x1 + 1)) (k1 : 6 ≤ x2 → J l z X (d + 2) mX0_leastPass (0, 0) 2 [jR 11, jI (x1 + 1), jN] [] (jG, M) Q) (k2 : x2 < 6 → hasB (M 12 4) x1 = true → hasB (M 12 4) x2 = true → J l z X (d + 1) mX0_hasPassed (0, 0) 0 [jR 11, jI x1, jI x2, jN, jN] [] (jG, M) (fun r μ => J l z X (d + 2) mX0_leastPass (0, 0) 46 [jR 11, jI x1, jI x2] (r.toList ++ []) μ Q)) (k3 : x2 < 6 → hasB (M 12 4) x1 = true → hasB (M 12 4) x2 = false → J l z X (d + 2) mX0_leastPass (0, 0) 56 [jR 11, jI x1, jI x2] [] (jG, M) Q) (k4 : x2 < 6 → hasB (M 12 4) x1 = false → J l z X (d + 2) mX0_leastPass (0, 0) 56 [jR 11, jI x1, jI x2] [] (jG, M) Q) : J l z X (d + 2) mX0_leastPass (0, 0) 12 [jR 11, jI x1, jI x2] [] (jG, M) Q :=
  (J_iload_n dX0_leastPass_12 rfl (J_bipush dX0_leastPass_13 jc_6 jb_6 (J_icmp_ge dX0_leastPass_15 (tgt := 62) (by decide) (fun c1 => (J_iinc dX0_leastPass_62 rfl jc_1 (s1 c1) (J_goto dX0_leastPass_65 (tgt := 2) (by decide) (J_weak [jR 11, jI (x1 + 1), jN] ⟨Or.inr rfl, Or.inr rfl, Or.inl rfl, trivial⟩ (k1 c1))))) (fun c1 => (J_aload_n dX0_leastPass_18 rfl (J_getR (k := 0) jcl_X0 dX0_leastPass_19 wf_X0_12 g_11 (Nat.le_of_ble_eq_true rfl) rfl rfl (J_iload_n dX0_leastPass_22 rfl (J_callV (a1 := (0, 0)) (a2 := (0, 0)) (mm' := mX1_has) (S := []) [jI x1] md_X1_has im_X1_has se_X1_has dX0_leastPass_23 wm_X0_86 jcl_X1.1 rfl g_12 rfl rfl (Nat.le_of_ble_eq_true rfl) (Nat.le_of_ble_eq_true rfl) rfl (c_X1_has hi_12  (fun c2 => (J_if_eq dX0_leastPass_26 (tgt := 56) (by decide) (fun c => absurd c (by decide)) (fun _ => (J_aload_n dX0_leastPass_29 rfl (J_getR (k := 0) jcl_X0 dX0_leastPass_30 wf_X0_12 g_11 (Nat.le_of_ble_eq_true rfl) rfl rfl (J_iload_n dX0_leastPass_33 rfl (J_callV (a1 := (0, 0)) (a2 := (0, 0)) (mm' := mX1_has) (S := []) [jI x2] md_X1_has im_X1_has se_X1_has dX0_leastPass_34 wm_X0_86 jcl_X1.1 rfl g_12 rfl rfl (Nat.le_of_ble_eq_true rfl) (Nat.le_of_ble_eq_true rfl) rfl (c_X1_has hi_12  (fun c3 => (J_if_eq dX0_leastPass_37 (tgt := 56) (by decide) (fun c => absurd c (by decide)) (fun _ => (J_aload_n dX0_leastPass_40 rfl (J_iload_n dX0_leastPass_41 rfl (J_iload_n dX0_leastPass_42 rfl (J_callV (a1 := (0, 0)) (a2 := (0, 0)) (mm' := mX0_hasPassed) (S := []) [jI x1, jI x2] md_X0_hasPassed im_X0_hasPassed se_X0_hasPassed dX0_leastPass_43 wm_X0_90 jcl_X0.1 rfl g_11 rfl rfl (Nat.le_of_ble_eq_true rfl) (Nat.le_of_ble_eq_true rfl) rfl (k2 c1 c2 c3)))))))) (fun c3 => (J_if_eq dX0_leastPass_37 (tgt := 56) (by decide) (fun _ => (k3 c1 c2 c3)) (fun c => absurd c (by decide)))))))))))) (fun c2 => (J_if_eq dX0_leastPass_26 (tgt := 56) (by decide) (fun _ => (k4 c1 c2)) (fun c => absurd c (by decide)))))))))))))
theorem b_X0_leastPass_46 {l : Launch} {z d : Nat} {X : jX} {M : Nat → Int → Int} {Q : Option jV → jM → Prop} {x1 : Int} {x2 : Int} {t0 : Int}  (s1 : t0 ≠ 0 → jIn (10 * x1)) (s2 : t0 ≠ 0 → jIn ((10 * x1) + x2)) (k1 : t0 = 0 → J l z X (d + 2) mX0_leastPass (0, 0) 56 [jR 11, jI x1, jI x2] [] (jG, M) Q) (k2 : t0 ≠ 0 → Q (some (jI ((10 * x1) + x2))) (jG, M)) : J l z X (d + 2) mX0_leastPass (0, 0) 46 [jR 11, jI x1, jI x2] [jI t0] (jG, M) Q :=
  (J_if_eq dX0_leastPass_46 (tgt := 56) (by decide) (fun c1 => (k1 c1)) (fun c1 => (J_bipush dX0_leastPass_49 jc_10 jb_10 (J_iload_n dX0_leastPass_51 rfl (J_imul dX0_leastPass_52 (s1 c1) (J_iload_n dX0_leastPass_53 rfl (J_iadd dX0_leastPass_54 (s2 c1) (J_iret dX0_leastPass_55 rfl (k2 c1)))))))))
theorem b_X0_leastPass_56 {l : Launch} {z d : Nat} {X : jX} {M : Nat → Int → Int} {Q : Option jV → jM → Prop} {x1 : Int} {x2 : Int}  (s1 : jIn (x2 + 1)) (k1 : J l z X (d + 2) mX0_leastPass (0, 0) 12 [jR 11, jI x1, jI (x2 + 1)] [] (jG, M) Q) : J l z X (d + 2) mX0_leastPass (0, 0) 56 [jR 11, jI x1, jI x2] [] (jG, M) Q :=
  (J_iinc dX0_leastPass_56 rfl jc_1 s1 (J_goto dX0_leastPass_59 (tgt := 12) (by decide) k1))
theorem b_X0_hasPassed_0 {l : Launch} {z d : Nat} {X : jX} {M : Nat → Int → Int} {Q : Option jV → jM → Prop} {x1 : Int} {x2 : Int}  (s1 : 0 ≤ x1) (s2 : x1 < 6) (s3 : 0 ≤ x2) (s4 : x2 < 6) (k1 : 0 ≤ (cmpI (M 17 x1) (M 17 x2)) → J l z X (d + 1) mX0_hasPassed (0, 0) 48 [jR 11, jI x1, jI x2, jI (cmpI (M 17 x1) (M 17 x2)), jI (cmpI (M 13 x1) (M 13 x2))] [] (jG, M) Q) (k2 : (cmpI (M 17 x1) (M 17 x2)) < 0 → 0 < (cmpI (M 13 x1) (M 13 x2)) → Q (some (jI 1)) (jG, M)) (k3 : (cmpI (M 17 x1) (M 17 x2)) < 0 → (cmpI (M 13 x1) (M 13 x2)) ≤ 0 → J l z X (d + 1) mX0_hasPassed (0, 0) 48 [jR 11, jI x1, jI x2, jI (cmpI (M 17 x1) (M 17 x2)), jI (cmpI (M 13 x1) (M 13 x2))] [] (jG, M) Q) : J l z X (d + 1) mX0_hasPassed (0, 0) 0 [jR 11, jI x1, jI x2, jN, jN] [] (jG, M) Q :=
  (J_aload_n dX0_hasPassed_0 rfl (J_getR (k := 1) jcl_X0 dX0_hasPassed_1 wf_X0_18 g_11 (Nat.le_of_ble_eq_true rfl) rfl rfl (J_iload_n dX0_hasPassed_4 rfl (J_iald dX0_hasPassed_5 g_17 s1 s2 (J_aload_n dX0_hasPassed_6 rfl (J_getR (k := 1) jcl_X0 dX0_hasPassed_7 wf_X0_18 g_11 (Nat.le_of_ble_eq_true rfl) rfl rfl (J_iload_n dX0_hasPassed_10 rfl (J_iald dX0_hasPassed_11 g_17 s3 s4 (J_callS (a1 := (0, 0)) (a2 := (0, 0)) (mm' := mJ6_compare_7cf53) (S := []) [jI (M 17 x1), jI (M 17 x2)] md_J6_compare_7cf53 is_J6_compare_7cf53 dX0_hasPassed_12 wm_X0_94 rfl rfl (Nat.le_of_ble_eq_true rfl) (Nat.le_of_ble_eq_true rfl) rfl (c_J6_compare_7cf53   (J_istore_n dX0_hasPassed_15 (Nat.le_of_ble_eq_true rfl) (J_aload_n dX0_hasPassed_16 rfl (J_getR (k := 0) jcl_X0 dX0_hasPassed_17 wf_X0_12 g_11 (Nat.le_of_ble_eq_true rfl) rfl rfl (J_getRN (k := 0) jcl_X1 dX0_hasPassed_20 wf_X0_63 g_12 (Nat.le_of_ble_eq_true rfl) rfl rfl (J_iload_n dX0_hasPassed_23 rfl (J_iald dX0_hasPassed_24 g_13 s1 s2 (J_aload_n dX0_hasPassed_25 rfl (J_getR (k := 0) jcl_X0 dX0_hasPassed_26 wf_X0_12 g_11 (Nat.le_of_ble_eq_true rfl) rfl rfl (J_getRN (k := 0) jcl_X1 dX0_hasPassed_29 wf_X0_63 g_12 (Nat.le_of_ble_eq_true rfl) rfl rfl (J_iload_n dX0_hasPassed_32 rfl (J_iald dX0_hasPassed_33 g_13 s3 s4 (J_callS (a1 := (0, 0)) (a2 := (0, 0)) (mm' := mJ6_compare_7cf53) (S := []) [jI (M 13 x1), jI (M 13 x2)] md_J6_compare_7cf53 is_J6_compare_7cf53 dX0_hasPassed_34 wm_X0_94 rfl rfl (Nat.le_of_ble_eq_true rfl) (Nat.le_of_ble_eq_true rfl) rfl (c_J6_compare_7cf53   (J_istore dX0_hasPassed_37 (Nat.le_of_ble_eq_true rfl) (J_iload_n dX0_hasPassed_39 rfl (J_if_ge dX0_hasPassed_40 (tgt := 48) (by decide) (fun c1 => (k1 c1)) (fun c1 => (J_iload dX0_hasPassed_43 rfl (J_if_gt dX0_hasPassed_45 (tgt := 57) (by decide) (fun c2 => (J_iconst dX0_hasPassed_57 jc_1 (J_goto dX0_hasPassed_58 (tgt := 62) (by decide) (J_zret dX0_hasPassed_62 rfl (Or.inr rfl) (k2 c1 c2))))) (fun c2 => (k3 c1 c2)))))))))))))))))))))))))))))))
theorem b_X0_hasPassed_48 {l : Launch} {z d : Nat} {X : jX} {M : Nat → Int → Int} {Q : Option jV → jM → Prop} {x1 : Int} {x2 : Int} {x3 : Int} {x4 : Int}   (k1 : x3 ≤ 0 → Q (some (jI 0)) (jG, M)) (k2 : 0 < x3 → 0 ≤ x4 → Q (some (jI 0)) (jG, M)) (k3 : 0 < x3 → x4 < 0 → Q (some (jI 1)) (jG, M)) : J l z X (d + 1) mX0_hasPassed (0, 0) 48 [jR 11, jI x1, jI x2, jI x3, jI x4] [] (jG, M) Q :=
  (J_iload_n dX0_hasPassed_48 rfl (J_if_le dX0_hasPassed_49 (tgt := 61) (by decide) (fun c1 => (J_iconst dX0_hasPassed_61 jc_0 (J_zret dX0_hasPassed_62 rfl (Or.inl rfl) (k1 c1)))) (fun c1 => (J_iload dX0_hasPassed_52 rfl (J_if_ge dX0_hasPassed_54 (tgt := 61) (by decide) (fun c2 => (J_iconst dX0_hasPassed_61 jc_0 (J_zret dX0_hasPassed_62 rfl (Or.inl rfl) (k2 c1 c2)))) (fun c2 => (J_iconst dX0_hasPassed_57 jc_1 (J_goto dX0_hasPassed_58 (tgt := 62) (by decide) (J_zret dX0_hasPassed_62 rfl (Or.inr rfl) (k3 c1 c2))))))))))
theorem b_X1_settle_0 {l : Launch} {z d : Nat} {X : jX} {M : Nat → Int → Int} {Q : Option jV → jM → Prop} {h : Nat} {x1 : Int} {x2 : Int} {x3 : Int} {x4 : Int} (hh : jHi h) (s1 : 0 ≤ x1 → x1 < 6 → 0 ≤ x1) (s2 : 0 ≤ x1 → x1 < 6 → x1 < 6) (k1 : x1 < 0 → Q none (jG, M)) (k2 : 0 ≤ x1 → x1 < 6 → Q none (jG, (jupd (jupd (jupd (jupd (jupd M h 4 (jor (M h 4) (jshl 1 x1))) (h + 1) x1 x2) (h + 2) x1 x3) (h + 3) x1 x4) (h + 4) x1 0))) (k3 : 0 ≤ x1 → 6 ≤ x1 → Q none (jG, M)) : J l z X d mX1_settle (0, 0) 0 [jR h, jI x1, jI x2, jI x3, jI x4] [] (jG, M) Q :=
  (J_iload_n dX1_settle_0 rfl (J_if_lt dX1_settle_1 (tgt := 10) (by decide) (fun c1 => (J_vret dX1_settle_10 rfl (k1 c1))) (fun c1 => (J_iload_n dX1_settle_4 rfl (J_bipush dX1_settle_5 jc_6 jb_6 (J_icmp_lt dX1_settle_7 (tgt := 11) (by decide) (fun c2 => (J_aload_n dX1_settle_11 rfl (J_dupR dX1_settle_12 (J_getI (k := 4) (kz := 4) jcl_X1 dX1_settle_13 wf_X1_31 hh.1 (Nat.le_of_ble_eq_true rfl) rfl rfl (J_iconst dX1_settle_16 jc_1 (J_iload_n dX1_settle_17 rfl (J_ishl dX1_settle_18 (J_ior dX1_settle_19 (J_putI (k := 4) (kz := 4) jcl_X1 dX1_settle_20 wf_X1_31 hh.1 (Nat.le_of_ble_eq_true rfl) rfl rfl rfl (J_aload_n dX1_settle_23 rfl (J_getR (k := 0) jcl_X1 dX1_settle_24 wf_X1_9 hh.1 (Nat.le_of_ble_eq_true rfl) rfl rfl (J_iload_n dX1_settle_27 rfl (J_iload_n dX1_settle_28 rfl (J_iast dX1_settle_29 hh.2.1 (s1 c1 c2) (s2 c1 c2) (J_aload_n dX1_settle_30 rfl (J_getR (k := 1) jcl_X1 dX1_settle_31 wf_X1_15 hh.1 (Nat.le_of_ble_eq_true rfl) rfl rfl (J_iload_n dX1_settle_34 rfl (J_iload_n dX1_settle_35 rfl (J_iast dX1_settle_36 hh.2.2.1 (s1 c1 c2) (s2 c1 c2) (J_aload_n dX1_settle_37 rfl (J_getR (k := 2) jcl_X1 dX1_settle_38 wf_X1_18 hh.1 (Nat.le_of_ble_eq_true rfl) rfl rfl (J_iload_n dX1_settle_41 rfl (J_iload dX1_settle_42 rfl (J_iast dX1_settle_44 hh.2.2.2.1 (s1 c1 c2) (s2 c1 c2) (J_aload_n dX1_settle_45 rfl (J_getR (k := 3) jcl_X1 dX1_settle_46 wf_X1_21 hh.1 (Nat.le_of_ble_eq_true rfl) rfl rfl (J_iload_n dX1_settle_49 rfl (J_iconst dX1_settle_50 jc_0 (J_iast dX1_settle_51 hh.2.2.2.2 (s1 c1 c2) (s2 c1 c2) (J_vret dX1_settle_52 rfl (k2 c1 c2))))))))))))))))))))))))))))))) (fun c2 => (J_vret dX1_settle_10 rfl (k3 c1 c2)))))))))
theorem b_X1_drop_0 {l : Launch} {z d : Nat} {X : jX} {M : Nat → Int → Int} {Q : Option jV → jM → Prop} {h : Nat} {x1 : Int} (hh : jHi h)  (k1 : hasB (M h 4) x1 = true → Q none (jG, (jupd M h 4 (jand (M h 4) (jxor (jshl 1 x1) (-1)))))) (k2 : hasB (M h 4) x1 = false → Q none (jG, M)) : J l z X (d + 1) mX1_drop (0, 0) 0 [jR h, jI x1] [] (jG, M) Q :=
  (J_aload_n dX1_drop_0 rfl (J_iload_n dX1_drop_1 rfl (J_callV (a1 := (0, 0)) (a2 := (0, 0)) (mm' := mX1_has) (S := []) [jI x1] md_X1_has im_X1_has se_X1_has dX1_drop_2 wm_X1_40 jcl_X1.1 rfl hh.1 rfl rfl (Nat.le_of_ble_eq_true rfl) (Nat.le_of_ble_eq_true rfl) rfl (c_X1_has hh  (fun c1 => (J_if_eq dX1_drop_5 (tgt := 22) (by decide) (fun c => absurd c (by decide)) (fun _ => (J_aload_n dX1_drop_8 rfl (J_dupR dX1_drop_9 (J_getI (k := 4) (kz := 4) jcl_X1 dX1_drop_10 wf_X1_31 hh.1 (Nat.le_of_ble_eq_true rfl) rfl rfl (J_iconst dX1_drop_13 jc_1 (J_iload_n dX1_drop_14 rfl (J_ishl dX1_drop_15 (J_iconst dX1_drop_16 jc_m1 (J_ixor dX1_drop_17 (J_iand dX1_drop_18 (J_putI (k := 4) (kz := 4) jcl_X1 dX1_drop_19 wf_X1_31 hh.1 (Nat.le_of_ble_eq_true rfl) rfl rfl rfl (J_vret dX1_drop_22 rfl (k1 c1))))))))))))))) (fun c1 => (J_if_eq dX1_drop_5 (tgt := 22) (by decide) (fun _ => (J_vret dX1_drop_22 rfl (k2 c1))) (fun c => absurd c (by decide))))))))
theorem b_X1_takeOver_0 {l : Launch} {z d : Nat} {X : jX} {M : Nat → Int → Int} {Q : Option jV → jM → Prop} {h : Nat} {h2 : Nat} (hh : jHi h) (hh2 : jHi h2)  (k1 : Q none (jG, (jupd (jupd (jupd (jupd (jcpy (jcpy (jcpy (jcpy M (h2 + 1) (h + 1) 6) (h2 + 2) (h + 2) 6) (h2 + 3) (h + 3) 6) (h2 + 4) (h + 4) 6) h 4 ((jcpy (jcpy (jcpy (jcpy M (h2 + 1) (h + 1) 6) (h2 + 2) (h + 2) 6) (h2 + 3) (h + 3) 6) (h2 + 4) (h + 4) 6) h2 4)) h 5 ((jupd (jcpy (jcpy (jcpy (jcpy M (h2 + 1) (h + 1) 6) (h2 + 2) (h + 2) 6) (h2 + 3) (h + 3) 6) (h2 + 4) (h + 4) 6) h 4 ((jcpy (jcpy (jcpy (jcpy M (h2 + 1) (h + 1) 6) (h2 + 2) (h + 2) 6) (h2 + 3) (h + 3) 6) (h2 + 4) (h + 4) 6) h2 4)) h2 5)) h 6 ((jupd (jupd (jcpy (jcpy (jcpy (jcpy M (h2 + 1) (h + 1) 6) (h2 + 2) (h + 2) 6) (h2 + 3) (h + 3) 6) (h2 + 4) (h + 4) 6) h 4 ((jcpy (jcpy (jcpy (jcpy M (h2 + 1) (h + 1) 6) (h2 + 2) (h + 2) 6) (h2 + 3) (h + 3) 6) (h2 + 4) (h + 4) 6) h2 4)) h 5 ((jupd (jcpy (jcpy (jcpy (jcpy M (h2 + 1) (h + 1) 6) (h2 + 2) (h + 2) 6) (h2 + 3) (h + 3) 6) (h2 + 4) (h + 4) 6) h 4 ((jcpy (jcpy (jcpy (jcpy M (h2 + 1) (h + 1) 6) (h2 + 2) (h + 2) 6) (h2 + 3) (h + 3) 6) (h2 + 4) (h + 4) 6) h2 4)) h2 5)) h2 6)) h 7 ((jupd (jupd (jupd (jcpy (jcpy (jcpy (jcpy M (h2 + 1) (h + 1) 6) (h2 + 2) (h + 2) 6) (h2 + 3) (h + 3) 6) (h2 + 4) (h + 4) 6) h 4 ((jcpy (jcpy (jcpy (jcpy M (h2 + 1) (h + 1) 6) (h2 + 2) (h + 2) 6) (h2 + 3) (h + 3) 6) (h2 + 4) (h + 4) 6) h2 4)) h 5 ((jupd (jcpy (jcpy (jcpy (jcpy M (h2 + 1) (h + 1) 6) (h2 + 2) (h + 2) 6) (h2 + 3) (h + 3) 6) (h2 + 4) (h + 4) 6) h 4 ((jcpy (jcpy (jcpy (jcpy M (h2 + 1) (h + 1) 6) (h2 + 2) (h + 2) 6) (h2 + 3) (h + 3) 6) (h2 + 4) (h + 4) 6) h2 4)) h2 5)) h 6 ((jupd (jupd (jcpy (jcpy (jcpy (jcpy M (h2 + 1) (h + 1) 6) (h2 + 2) (h + 2) 6) (h2 + 3) (h + 3) 6) (h2 + 4) (h + 4) 6) h 4 ((jcpy (jcpy (jcpy (jcpy M (h2 + 1) (h + 1) 6) (h2 + 2) (h + 2) 6) (h2 + 3) (h + 3) 6) (h2 + 4) (h + 4) 6) h2 4)) h 5 ((jupd (jcpy (jcpy (jcpy (jcpy M (h2 + 1) (h + 1) 6) (h2 + 2) (h + 2) 6) (h2 + 3) (h + 3) 6) (h2 + 4) (h + 4) 6) h 4 ((jcpy (jcpy (jcpy (jcpy M (h2 + 1) (h + 1) 6) (h2 + 2) (h + 2) 6) (h2 + 3) (h + 3) 6) (h2 + 4) (h + 4) 6) h2 4)) h2 5)) h2 6)) h2 7)))) : J l z X (d + 1) mX1_takeOver (0, 0) 0 [jR h, jR h2] [] (jG, M) Q :=
  (J_aload_n dX1_takeOver_0 rfl (J_getR (k := 0) jcl_X1 dX1_takeOver_1 wf_X1_9 hh2.1 (Nat.le_of_ble_eq_true rfl) rfl rfl (J_iconst dX1_takeOver_4 jc_0 (J_aload_n dX1_takeOver_5 rfl (J_getR (k := 0) jcl_X1 dX1_takeOver_6 wf_X1_9 hh.1 (Nat.le_of_ble_eq_true rfl) rfl rfl (J_iconst dX1_takeOver_9 jc_0 (J_bipush dX1_takeOver_10 jc_6 jb_6 (J_acopy dX1_takeOver_12 wm_X1_44 wac_1 wac_2 wac_3 hh2.2.1 hh.2.1 (by decide) (by decide) (by decide) (by decide) (Nat.succ_le_succ (Nat.zero_le _)) (J_aload_n dX1_takeOver_15 rfl (J_getR (k := 1) jcl_X1 dX1_takeOver_16 wf_X1_15 hh2.1 (Nat.le_of_ble_eq_true rfl) rfl rfl (J_iconst dX1_takeOver_19 jc_0 (J_aload_n dX1_takeOver_20 rfl (J_getR (k := 1) jcl_X1 dX1_takeOver_21 wf_X1_15 hh.1 (Nat.le_of_ble_eq_true rfl) rfl rfl (J_iconst dX1_takeOver_24 jc_0 (J_bipush dX1_takeOver_25 jc_6 jb_6 (J_acopy dX1_takeOver_27 wm_X1_44 wac_1 wac_2 wac_3 hh2.2.2.1 hh.2.2.1 (by decide) (by decide) (by decide) (by decide) (Nat.succ_le_succ (Nat.zero_le _)) (J_aload_n dX1_takeOver_30 rfl (J_getR (k := 2) jcl_X1 dX1_takeOver_31 wf_X1_18 hh2.1 (Nat.le_of_ble_eq_true rfl) rfl rfl (J_iconst dX1_takeOver_34 jc_0 (J_aload_n dX1_takeOver_35 rfl (J_getR (k := 2) jcl_X1 dX1_takeOver_36 wf_X1_18 hh.1 (Nat.le_of_ble_eq_true rfl) rfl rfl (J_iconst dX1_takeOver_39 jc_0 (J_bipush dX1_takeOver_40 jc_6 jb_6 (J_acopy dX1_takeOver_42 wm_X1_44 wac_1 wac_2 wac_3 hh2.2.2.2.1 hh.2.2.2.1 (by decide) (by decide) (by decide) (by decide) (Nat.succ_le_succ (Nat.zero_le _)) (J_aload_n dX1_takeOver_45 rfl (J_getR (k := 3) jcl_X1 dX1_takeOver_46 wf_X1_21 hh2.1 (Nat.le_of_ble_eq_true rfl) rfl rfl (J_iconst dX1_takeOver_49 jc_0 (J_aload_n dX1_takeOver_50 rfl (J_getR (k := 3) jcl_X1 dX1_takeOver_51 wf_X1_21 hh.1 (Nat.le_of_ble_eq_true rfl) rfl rfl (J_iconst dX1_takeOver_54 jc_0 (J_bipush dX1_takeOver_55 jc_6 jb_6 (J_acopy dX1_takeOver_57 wm_X1_44 wac_1 wac_2 wac_3 hh2.2.2.2.2 hh.2.2.2.2 (by decide) (by decide) (by decide) (by decide) (Nat.succ_le_succ (Nat.zero_le _)) (J_aload_n dX1_takeOver_60 rfl (J_aload_n dX1_takeOver_61 rfl (J_getI (k := 4) (kz := 4) jcl_X1 dX1_takeOver_62 wf_X1_31 hh2.1 (Nat.le_of_ble_eq_true rfl) rfl rfl (J_putI (k := 4) (kz := 4) jcl_X1 dX1_takeOver_65 wf_X1_31 hh.1 (Nat.le_of_ble_eq_true rfl) rfl rfl rfl (J_aload_n dX1_takeOver_68 rfl (J_aload_n dX1_takeOver_69 rfl (J_getI (k := 5) (kz := 5) jcl_X1 dX1_takeOver_70 wf_X1_50 hh2.1 (Nat.le_of_ble_eq_true rfl) rfl rfl (J_putI (k := 5) (kz := 5) jcl_X1 dX1_takeOver_73 wf_X1_50 hh.1 (Nat.le_of_ble_eq_true rfl) rfl rfl rfl (J_aload_n dX1_takeOver_76 rfl (J_aload_n dX1_takeOver_77 rfl (J_getI (k := 6) (kz := 6) jcl_X1 dX1_takeOver_78 wf_X1_24 hh2.1 (Nat.le_of_ble_eq_true rfl) rfl rfl (J_putI (k := 6) (kz := 6) jcl_X1 dX1_takeOver_81 wf_X1_24 hh.1 (Nat.le_of_ble_eq_true rfl) rfl rfl rfl (J_aload_n dX1_takeOver_84 rfl (J_aload_n dX1_takeOver_85 rfl (J_getI (k := 7) (kz := 7) jcl_X1 dX1_takeOver_86 wf_X1_28 hh2.1 (Nat.le_of_ble_eq_true rfl) rfl rfl (J_putI (k := 7) (kz := 7) jcl_X1 dX1_takeOver_89 wf_X1_28 hh.1 (Nat.le_of_ble_eq_true rfl) rfl rfl rfl (J_vret dX1_takeOver_92 rfl k1)))))))))))))))))))))))))))))))))))))))))))))))))
theorem b_X1_whyNot_0 {l : Launch} {z d : Nat} {X : jX} {M : Nat → Int → Int} {Q : Option jV → jM → Prop} {h : Nat} {x1 : Int} {x2 : Int} {x3 : Int} (hh : jHi h)  (k1 : x1 = 33 → Q (some (jI 0)) (jG, M)) (k2 : x1 ≠ 33 → x1 ≠ 46 → hasB (M h 4) x2 = true → x1 ≠ 62 → J l z X (d + 1) mX1_whyNot (0, 0) 38 [jR h, jI x1, jI x2, jI x3, jN] [] (jG, M) Q) (k3 : x1 ≠ 33 → x1 ≠ 46 → hasB (M h 4) x2 = true → x1 = 62 → hasB (M h 4) x3 = true → J l z X (d + 1) mX1_whyNot (0, 0) 38 [jR h, jI x1, jI x2, jI x3, jN] [] (jG, M) Q) (k4 : x1 ≠ 33 → x1 ≠ 46 → hasB (M h 4) x2 = true → x1 = 62 → hasB (M h 4) x3 = false → Q (some (jI 1)) (jG, M)) (k5 : x1 ≠ 33 → x1 ≠ 46 → hasB (M h 4) x2 = false → Q (some (jI 1)) (jG, M)) (k6 : x1 ≠ 33 → x1 = 46 → Q (some (jI 0)) (jG, M)) : J l z X (d + 1) mX1_whyNot (0, 0) 0 [jR h, jI x1, jI x2, jI x3, jN] [] (jG, M) Q :=
  (J_iload_n dX1_whyNot_0 rfl (J_bipush dX1_whyNot_1 jc_33 jb_33 (J_icmp_eq dX1_whyNot_3 (tgt := 12) (by decide) (fun c1 => (J_iconst dX1_whyNot_12 jc_0 (J_iret dX1_whyNot_13 rfl (k1 c1)))) (fun c1 => (J_iload_n dX1_whyNot_6 rfl (J_bipush dX1_whyNot_7 jc_46 jb_46 (J_icmp_ne dX1_whyNot_9 (tgt := 14) (by decide) (fun c2 => (J_aload_n dX1_whyNot_14 rfl (J_iload_n dX1_whyNot_15 rfl (J_callV (a1 := (0, 0)) (a2 := (0, 0)) (mm' := mX1_has) (S := []) [jI x2] md_X1_has im_X1_has se_X1_has dX1_whyNot_16 wm_X1_40 jcl_X1.1 rfl hh.1 rfl rfl (Nat.le_of_ble_eq_true rfl) (Nat.le_of_ble_eq_true rfl) rfl (c_X1_has hh  (fun c3 => (J_if_eq dX1_whyNot_19 (tgt := 36) (by decide) (fun c => absurd c (by decide)) (fun _ => (J_iload_n dX1_whyNot_22 rfl (J_bipush dX1_whyNot_23 jc_62 jb_62 (J_icmp_ne dX1_whyNot_25 (tgt := 38) (by decide) (fun c4 => (k2 c1 c2 c3 c4)) (fun c4 => (J_aload_n dX1_whyNot_28 rfl (J_iload_n dX1_whyNot_29 rfl (J_callV (a1 := (0, 0)) (a2 := (0, 0)) (mm' := mX1_has) (S := []) [jI x3] md_X1_has im_X1_has se_X1_has dX1_whyNot_30 wm_X1_40 jcl_X1.1 rfl hh.1 rfl rfl (Nat.le_of_ble_eq_true rfl) (Nat.le_of_ble_eq_true rfl) rfl (c_X1_has hh  (fun c5 => (J_if_ne dX1_whyNot_33 (tgt := 38) (by decide) (fun _ => (k3 c1 c2 c3 c4 c5)) (fun c => absurd c (by decide)))) (fun c5 => (J_if_ne dX1_whyNot_33 (tgt := 38) (by decide) (fun c => absurd c (by decide)) (fun _ => (J_iconst dX1_whyNot_36 jc_1 (J_iret dX1_whyNot_37 rfl (k4 c1 c2 c3 c4 c5))))))))))))))))) (fun c3 => (J_if_eq dX1_whyNot_19 (tgt := 36) (by decide) (fun _ => (J_iconst dX1_whyNot_36 jc_1 (J_iret dX1_whyNot_37 rfl (k5 c1 c2 c3)))) (fun c => absurd c (by decide))))))))) (fun c2 => (J_iconst dX1_whyNot_12 jc_0 (J_iret dX1_whyNot_13 rfl (k6 c1 c2)))))))))))
theorem b_X1_whyNot_38 {l : Launch} {z d : Nat} {X : jX} {M : Nat → Int → Int} {Q : Option jV → jM → Prop} {h : Nat} {x1 : Int} {x2 : Int} {x3 : Int} (hh : jHi h) (s1 : x1 ≠ 120 → x1 ≠ 62 → 0 ≤ x2) (s2 : x1 ≠ 120 → x1 ≠ 62 → x2 < 6) (s3 : x1 ≠ 120 → x1 ≠ 62 → jIn ((M (h + 4) x2) + (if x1 = 98 then 2 else 1))) (k1 : x1 ≠ 120 → x1 ≠ 62 → ((M (h + 4) x2) + (if x1 = 98 then 2 else 1)) ≤ 2 → (if x1 = 98 then 2 else 1) ≤ (M h 5) → Q (some (jI 0)) (jG, M)) (k2 : x1 ≠ 120 → x1 ≠ 62 → ((M (h + 4) x2) + (if x1 = 98 then 2 else 1)) ≤ 2 → (M h 5) < (if x1 = 98 then 2 else 1) → Q (some (jI 4)) (jG, M)) (k3 : x1 ≠ 120 → x1 ≠ 62 → 2 < ((M (h + 4) x2) + (if x1 = 98 then 2 else 1)) → Q (some (jI 3)) (jG, M)) (k4 : x1 ≠ 120 → x1 = 62 → J l z X d mX1_whyNotGive (0, 0) 0 [jR h, jI x2, jI x3] [] (jG, M) (fun r μ => J l z X (d + 1) mX1_whyNot (0, 0) 58 [jR h, jI x1, jI x2, jI x3, jN] (r.toList ++ []) μ Q)) (k5 : x1 = 120 → Q (some (jI 0)) (jG, M)) : J l z X (d + 1) mX1_whyNot (0, 0) 38 [jR h, jI x1, jI x2, jI x3, jN] [] (jG, M) Q :=
  (J_iload_n dX1_whyNot_38 rfl (J_bipush dX1_whyNot_39 jc_120 jb_120 (J_icmp_ne dX1_whyNot_41 (tgt := 46) (by decide) (fun c1 => (J_iload_n dX1_whyNot_46 rfl (J_bipush dX1_whyNot_47 jc_62 jb_62 (J_icmp_ne dX1_whyNot_49 (tgt := 59) (by decide) (fun c2 => (J_iload_n dX1_whyNot_59 rfl (J_callS (a1 := (0, 0)) (a2 := (0, 0)) (mm' := mX1_halvesOf) (S := []) [jI x1] md_X1_halvesOf is_X1_halvesOf dX1_whyNot_60 wm_X1_57 rfl rfl (Nat.le_of_ble_eq_true rfl) (Nat.le_of_ble_eq_true rfl) rfl (c_X1_halvesOf   (J_istore dX1_whyNot_63 (Nat.le_of_ble_eq_true rfl) (J_aload_n dX1_whyNot_65 rfl (J_getR (k := 3) jcl_X1 dX1_whyNot_66 wf_X1_21 hh.1 (Nat.le_of_ble_eq_true rfl) rfl rfl (J_iload_n dX1_whyNot_69 rfl (J_iald dX1_whyNot_70 hh.2.2.2.2 (s1 c1 c2) (s2 c1 c2) (J_iload dX1_whyNot_71 rfl (J_iadd dX1_whyNot_73 (s3 c1 c2) (J_iconst dX1_whyNot_74 jc_2 (J_icmp_le dX1_whyNot_75 (tgt := 80) (by decide) (fun c3 => (J_aload_n dX1_whyNot_80 rfl (J_getI (k := 5) (kz := 5) jcl_X1 dX1_whyNot_81 wf_X1_50 hh.1 (Nat.le_of_ble_eq_true rfl) rfl rfl (J_iload dX1_whyNot_84 rfl (J_icmp_ge dX1_whyNot_86 (tgt := 93) (by decide) (fun c4 => (J_iconst dX1_whyNot_93 jc_0 (J_iret dX1_whyNot_94 rfl (k1 c1 c2 c3 c4)))) (fun c4 => (J_iconst dX1_whyNot_89 jc_4 (J_goto dX1_whyNot_90 (tgt := 94) (by decide) (J_iret dX1_whyNot_94 rfl (k2 c1 c2 c3 c4)))))))))) (fun c3 => (J_iconst dX1_whyNot_78 jc_3 (J_iret dX1_whyNot_79 rfl (k3 c1 c2 c3))))))))))))))))) (fun c2 => (J_aload_n dX1_whyNot_52 rfl (J_iload_n dX1_whyNot_53 rfl (J_iload_n dX1_whyNot_54 rfl (J_callV (a1 := (0, 0)) (a2 := (0, 0)) (mm' := mX1_whyNotGive) (S := []) [jI x2, jI x3] md_X1_whyNotGive im_X1_whyNotGive se_X1_whyNotGive dX1_whyNot_55 wm_X1_53 jcl_X1.1 rfl hh.1 rfl rfl (Nat.le_of_ble_eq_true rfl) (Nat.le_of_ble_eq_true rfl) rfl (k4 c1 c2)))))))))) (fun c1 => (J_iconst dX1_whyNot_44 jc_0 (J_iret dX1_whyNot_45 rfl (k5 c1)))))))
theorem b_X1_whyNot_58 {l : Launch} {z d : Nat} {X : jX} {M : Nat → Int → Int} {Q : Option jV → jM → Prop} {h : Nat} {x1 : Int} {x2 : Int} {x3 : Int} {t0 : Int} (hh : jHi h)  (k1 : Q (some (jI t0)) (jG, M)) : J l z X (d + 1) mX1_whyNot (0, 0) 58 [jR h, jI x1, jI x2, jI x3, jN] [jI t0] (jG, M) Q :=
  (J_iret dX1_whyNot_58 rfl k1)
theorem b_X1_whyNotGive_0 {l : Launch} {z d : Nat} {X : jX} {M : Nat → Int → Int} {Q : Option jV → jM → Prop} {h : Nat} {x1 : Int} {x2 : Int} (hh : jHi h) (s1 : x1 ≠ x2 → 0 ≤ x2) (s2 : x1 ≠ x2 → x2 < 6) (s3 : x1 ≠ x2 → jIn ((M (h + 4) x2) + 1)) (s4 : x1 ≠ x2 → ((M (h + 4) x2) + 1) ≤ 2 → 0 ≤ x1) (s5 : x1 ≠ x2 → ((M (h + 4) x2) + 1) ≤ 2 → x1 < 6) (k1 : x1 ≠ x2 → ((M (h + 4) x2) + 1) ≤ 2 → (M (h + 4) x1) ≠ 0 → Q (some (jI 0)) (jG, M)) (k2 : x1 ≠ x2 → ((M (h + 4) x2) + 1) ≤ 2 → (M (h + 4) x1) = 0 → Q (some (jI 5)) (jG, M)) (k3 : x1 ≠ x2 → 2 < ((M (h + 4) x2) + 1) → Q (some (jI 3)) (jG, M)) (k4 : x1 = x2 → Q (some (jI 2)) (jG, M)) : J l z X d mX1_whyNotGive (0, 0) 0 [jR h, jI x1, jI x2] [] (jG, M) Q :=
  (J_iload_n dX1_whyNotGive_0 rfl (J_iload_n dX1_whyNotGive_1 rfl (J_icmp_ne dX1_whyNotGive_2 (tgt := 7) (by decide) (fun c1 => (J_aload_n dX1_whyNotGive_7 rfl (J_getR (k := 3) jcl_X1 dX1_whyNotGive_8 wf_X1_21 hh.1 (Nat.le_of_ble_eq_true rfl) rfl rfl (J_iload_n dX1_whyNotGive_11 rfl (J_iald dX1_whyNotGive_12 hh.2.2.2.2 (s1 c1) (s2 c1) (J_iconst dX1_whyNotGive_13 jc_1 (J_iadd dX1_whyNotGive_14 (s3 c1) (J_iconst dX1_whyNotGive_15 jc_2 (J_icmp_le dX1_whyNotGive_16 (tgt := 21) (by decide) (fun c2 => (J_aload_n dX1_whyNotGive_21 rfl (J_getR (k := 3) jcl_X1 dX1_whyNotGive_22 wf_X1_21 hh.1 (Nat.le_of_ble_eq_true rfl) rfl rfl (J_iload_n dX1_whyNotGive_25 rfl (J_iald dX1_whyNotGive_26 hh.2.2.2.2 (s4 c1 c2) (s5 c1 c2) (J_if_ne dX1_whyNotGive_27 (tgt := 34) (by decide) (fun c3 => (J_iconst dX1_whyNotGive_34 jc_0 (J_iret dX1_whyNotGive_35 rfl (k1 c1 c2 c3)))) (fun c3 => (J_iconst dX1_whyNotGive_30 jc_5 (J_goto dX1_whyNotGive_31 (tgt := 35) (by decide) (J_iret dX1_whyNotGive_35 rfl (k2 c1 c2 c3))))))))))) (fun c2 => (J_iconst dX1_whyNotGive_19 jc_3 (J_iret dX1_whyNotGive_20 rfl (k3 c1 c2))))))))))))) (fun c1 => (J_iconst dX1_whyNotGive_5 jc_2 (J_iret dX1_whyNotGive_6 rfl (k4 c1)))))))
theorem b_X1_act_0 {l : Launch} {z d : Nat} {X : jX} {M : Nat → Int → Int} {Q : Option jV → jM → Prop} {h : Nat} {x1 : Int} {x2 : Int} {x3 : Int} (hh : jHi h)  (k1 : J l z X (d + 2) mX1_whyNot (0, 0) 0 [jR h, jI x1, jI x2, jI x3, jN] [] (jG, M) (fun r μ => J l z X (d + 3) mX1_act (0, 0) 7 [jR h, jI x1, jI x2, jI x3] (r.toList ++ []) μ Q)) : J l z X (d + 3) mX1_act (0, 0) 0 [jR h, jI x1, jI x2, jI x3] [] (jG, M) Q :=
  (J_aload_n dX1_act_0 rfl (J_iload_n dX1_act_1 rfl (J_iload_n dX1_act_2 rfl (J_iload_n dX1_act_3 rfl (J_callV (a1 := (0, 0)) (a2 := (0, 0)) (mm' := mX1_whyNot) (S := []) [jI x1, jI x2, jI x3] md_X1_whyNot im_X1_whyNot se_X1_whyNot dX1_act_4 wm_X1_60 jcl_X1.1 rfl hh.1 rfl rfl (Nat.le_of_ble_eq_true rfl) (Nat.le_of_ble_eq_true rfl) rfl k1)))))
theorem b_X1_act_7 {l : Launch} {z d : Nat} {X : jX} {M : Nat → Int → Int} {Q : Option jV → jM → Prop} {h : Nat} {x1 : Int} {x2 : Int} {x3 : Int} {t0 : Int} (hh : jHi h) (s1 : t0 = 0 → x1 ≠ 33 → x1 ≠ 46 → x1 ≠ 120 → x1 = 62 → hasB (M h 4) x2 = true → hasB (M h 4) x3 = true → 0 ≤ x2) (s2 : t0 = 0 → x1 ≠ 33 → x1 ≠ 46 → x1 ≠ 120 → x1 = 62 → hasB (M h 4) x2 = true → hasB (M h 4) x3 = true → x2 < 6) (s3 : t0 = 0 → x1 ≠ 33 → x1 ≠ 46 → x1 ≠ 120 → x1 = 62 → hasB (M h 4) x2 = true → hasB (M h 4) x3 = true → jIn ((M (h + 4) x2) - 1)) (s4 : t0 = 0 → x1 ≠ 33 → x1 ≠ 46 → x1 ≠ 120 → x1 = 62 → hasB (M h 4) x2 = true → hasB (M h 4) x3 = true → 0 ≤ x3) (s5 : t0 = 0 → x1 ≠ 33 → x1 ≠ 46 → x1 ≠ 120 → x1 = 62 → hasB (M h 4) x2 = true → hasB (M h 4) x3 = true → x3 < 6) (s6 : t0 = 0 → x1 ≠ 33 → x1 ≠ 46 → x1 ≠ 120 → x1 = 62 → hasB (M h 4) x2 = true → hasB (M h 4) x3 = true → jIn (((jupd M (h + 4) x2 ((M (h + 4) x2) - 1)) (h + 4) x3) + 1)) (s7 : t0 = 0 → x1 = 33 → jIn (1 - (M h 7))) (k1 : t0 = 0 → x1 ≠ 33 → x1 ≠ 46 → x1 ≠ 120 → x1 ≠ 62 → J l z X (d + 3) mX1_act (0, 0) 102 [jR h, jI x1, jI x2, jI x3] [] (jG, M) Q) (k2 : t0 = 0 → x1 ≠ 33 → x1 ≠ 46 → x1 ≠ 120 → x1 = 62 → hasB (M h 4) x2 = true → hasB (M h 4) x3 = true → Q none (jG, (jupd (jupd M (h + 4) x2 ((M (h + 4) x2) - 1)) (h + 4) x3 (((jupd M (h + 4) x2 ((M (h + 4) x2) - 1)) (h + 4) x3) + 1)))) (k3 : t0 = 0 → x1 ≠ 33 → x1 ≠ 46 → x1 ≠ 120 → x1 = 62 → hasB (M h 4) x2 = true → hasB (M h 4) x3 = false → J l z X (d + 3) mX1_act (0, 0) 102 [jR h, jI x1, jI x2, jI x3] [] (jG, M) Q) (k4 : t0 = 0 → x1 ≠ 33 → x1 ≠ 46 → x1 ≠ 120 → x1 = 62 → hasB (M h 4) x2 = false → J l z X (d + 3) mX1_act (0, 0) 102 [jR h, jI x1, jI x2, jI x3] [] (jG, M) Q) (k5 : t0 = 0 → x1 ≠ 33 → x1 ≠ 46 → x1 = 120 → J l z X (d + 2) mX1_drop (0, 0) 0 [jR h, jI x2] [] (jG, M) (fun r μ => J l z X (d + 3) mX1_act (0, 0) 54 [jR h, jI x1, jI x2, jI x3] (r.toList ++ []) μ Q)) (k6 : t0 = 0 → x1 ≠ 33 → x1 = 46 → J l z X (d + 2) mX1_wake (0, 0) 0 [jR h, jN] [] (jG, M) (fun r μ => J l z X (d + 3) mX1_act (0, 0) 40 [jR h, jI x1, jI x2, jI x3] (r.toList ++ []) μ Q)) (k7 : t0 = 0 → x1 = 33 → Q none (jG, (jupd M h 7 (1 - (M h 7))))) (k8 : t0 ≠ 0 → Q none (jG, M)) : J l z X (d + 3) mX1_act (0, 0) 7 [jR h, jI x1, jI x2, jI x3] [jI t0] (jG, M) Q :=
  (J_if_eq dX1_act_7 (tgt := 11) (by decide) (fun c1 => (J_iload_n dX1_act_11 rfl (J_bipush dX1_act_12 jc_33 jb_33 (J_icmp_ne dX1_act_14 (tgt := 30) (by decide) (fun c2 => (J_iload_n dX1_act_30 rfl (J_bipush dX1_act_31 jc_46 jb_46 (J_icmp_ne dX1_act_33 (tgt := 43) (by decide) (fun c3 => (J_iload_n dX1_act_43 rfl (J_bipush dX1_act_44 jc_120 jb_120 (J_icmp_ne dX1_act_46 (tgt := 57) (by decide) (fun c4 => (J_iload_n dX1_act_57 rfl (J_bipush dX1_act_58 jc_62 jb_62 (J_icmp_ne dX1_act_60 (tgt := 102) (by decide) (fun c5 => (k1 c1 c2 c3 c4 c5)) (fun c5 => (J_aload_n dX1_act_63 rfl (J_iload_n dX1_act_64 rfl (J_callV (a1 := (0, 0)) (a2 := (0, 0)) (mm' := mX1_has) (S := []) [jI x2] md_X1_has im_X1_has se_X1_has dX1_act_65 wm_X1_40 jcl_X1.1 rfl hh.1 rfl rfl (Nat.le_of_ble_eq_true rfl) (Nat.le_of_ble_eq_true rfl) rfl (c_X1_has hh  (fun c6 => (J_if_eq dX1_act_68 (tgt := 102) (by decide) (fun c => absurd c (by decide)) (fun _ => (J_aload_n dX1_act_71 rfl (J_iload_n dX1_act_72 rfl (J_callV (a1 := (0, 0)) (a2 := (0, 0)) (mm' := mX1_has) (S := []) [jI x3] md_X1_has im_X1_has se_X1_has dX1_act_73 wm_X1_40 jcl_X1.1 rfl hh.1 rfl rfl (Nat.le_of_ble_eq_true rfl) (Nat.le_of_ble_eq_true rfl) rfl (c_X1_has hh  (fun c7 => (J_if_eq dX1_act_76 (tgt := 102) (by decide) (fun c => absurd c (by decide)) (fun _ => (J_aload_n dX1_act_79 rfl (J_getR (k := 3) jcl_X1 dX1_act_80 wf_X1_21 hh.1 (Nat.le_of_ble_eq_true rfl) rfl rfl (J_iload_n dX1_act_83 rfl (J_dup2_RI dX1_act_84 (J_iald dX1_act_85 hh.2.2.2.2 (s1 c1 c2 c3 c4 c5 c6 c7) (s2 c1 c2 c3 c4 c5 c6 c7) (J_iconst dX1_act_86 jc_1 (J_isub dX1_act_87 (s3 c1 c2 c3 c4 c5 c6 c7) (J_iast dX1_act_88 hh.2.2.2.2 (s1 c1 c2 c3 c4 c5 c6 c7) (s2 c1 c2 c3 c4 c5 c6 c7) (J_aload_n dX1_act_89 rfl (J_getR (k := 3) jcl_X1 dX1_act_90 wf_X1_21 hh.1 (Nat.le_of_ble_eq_true rfl) rfl rfl (J_iload_n dX1_act_93 rfl (J_dup2_RI dX1_act_94 (J_iald dX1_act_95 hh.2.2.2.2 (s4 c1 c2 c3 c4 c5 c6 c7) (s5 c1 c2 c3 c4 c5 c6 c7) (J_iconst dX1_act_96 jc_1 (J_iadd dX1_act_97 (s6 c1 c2 c3 c4 c5 c6 c7) (J_iast dX1_act_98 hh.2.2.2.2 (s4 c1 c2 c3 c4 c5 c6 c7) (s5 c1 c2 c3 c4 c5 c6 c7) (J_goto dX1_act_99 (tgt := 136) (by decide) (J_vret dX1_act_136 rfl (k2 c1 c2 c3 c4 c5 c6 c7)))))))))))))))))))))) (fun c7 => (J_if_eq dX1_act_76 (tgt := 102) (by decide) (fun _ => (k3 c1 c2 c3 c4 c5 c6 c7)) (fun c => absurd c (by decide))))))))))) (fun c6 => (J_if_eq dX1_act_68 (tgt := 102) (by decide) (fun _ => (k4 c1 c2 c3 c4 c5 c6)) (fun c => absurd c (by decide))))))))))))) (fun c4 => (J_aload_n dX1_act_49 rfl (J_iload_n dX1_act_50 rfl (J_callV (a1 := (0, 0)) (a2 := (0, 0)) (mm' := mX1_drop) (S := []) [jI x2] md_X1_drop im_X1_drop se_X1_drop dX1_act_51 wm_X1_67 jcl_X1.1 rfl hh.1 rfl rfl (Nat.le_of_ble_eq_true rfl) (Nat.le_of_ble_eq_true rfl) rfl (k5 c1 c2 c3 c4))))))))) (fun c3 => (J_aload_n dX1_act_36 rfl (J_callV (a1 := (0, 0)) (a2 := (0, 0)) (mm' := mX1_wake) (S := []) [] md_X1_wake im_X1_wake se_X1_wake dX1_act_37 wm_X1_64 jcl_X1.1 rfl hh.1 rfl rfl (Nat.le_of_ble_eq_true rfl) (Nat.le_of_ble_eq_true rfl) rfl (k6 c1 c2 c3)))))))) (fun c2 => (J_aload_n dX1_act_17 rfl (J_iconst dX1_act_18 jc_1 (J_aload_n dX1_act_19 rfl (J_getI (k := 7) (kz := 7) jcl_X1 dX1_act_20 wf_X1_28 hh.1 (Nat.le_of_ble_eq_true rfl) rfl rfl (J_isub dX1_act_23 (s7 c1 c2) (J_putI (k := 7) (kz := 7) jcl_X1 dX1_act_24 wf_X1_28 hh.1 (Nat.le_of_ble_eq_true rfl) rfl rfl rfl (J_goto dX1_act_27 (tgt := 136) (by decide) (J_vret dX1_act_136 rfl (k7 c1 c2)))))))))))))) (fun c1 => (J_vret dX1_act_10 rfl (k8 c1))))
theorem b_X1_act_40 {l : Launch} {z d : Nat} {X : jX} {M : Nat → Int → Int} {Q : Option jV → jM → Prop} {h : Nat} {x1 : Int} {x2 : Int} {x3 : Int} (hh : jHi h)  (k1 : Q none (jG, M)) : J l z X (d + 3) mX1_act (0, 0) 40 [jR h, jI x1, jI x2, jI x3] [] (jG, M) Q :=
  (J_goto dX1_act_40 (tgt := 136) (by decide) (J_vret dX1_act_136 rfl k1))
theorem b_X1_act_54 {l : Launch} {z d : Nat} {X : jX} {M : Nat → Int → Int} {Q : Option jV → jM → Prop} {h : Nat} {x1 : Int} {x2 : Int} {x3 : Int} (hh : jHi h)  (k1 : Q none (jG, M)) : J l z X (d + 3) mX1_act (0, 0) 54 [jR h, jI x1, jI x2, jI x3] [] (jG, M) Q :=
  (J_goto dX1_act_54 (tgt := 136) (by decide) (J_vret dX1_act_136 rfl k1))
theorem b_X1_act_102 {l : Launch} {z d : Nat} {X : jX} {M : Nat → Int → Int} {Q : Option jV → jM → Prop} {h : Nat} {x1 : Int} {x2 : Int} {x3 : Int} (hh : jHi h) (s1 : hasB (M h 4) x2 = true → 0 ≤ x2) (s2 : hasB (M h 4) x2 = true → x2 < 6) (s3 : hasB (M h 4) x2 = true → jIn ((M (h + 4) x2) + (if x1 = 98 then 2 else 1))) (s4 : hasB (M h 4) x2 = true → jIn (((jupd M (h + 4) x2 ((M (h + 4) x2) + (if x1 = 98 then 2 else 1))) h 5) - (if x1 = 98 then 2 else 1))) (k1 : hasB (M h 4) x2 = true → Q none (jG, (jupd (jupd M (h + 4) x2 ((M (h + 4) x2) + (if x1 = 98 then 2 else 1))) h 5 (((jupd M (h + 4) x2 ((M (h + 4) x2) + (if x1 = 98 then 2 else 1))) h 5) - (if x1 = 98 then 2 else 1))))) (k2 : hasB (M h 4) x2 = false → Q none (jG, M)) : J l z X (d + 3) mX1_act (0, 0) 102 [jR h, jI x1, jI x2, jI x3] [] (jG, M) Q :=
  (J_aload_n dX1_act_102 rfl (J_iload_n dX1_act_103 rfl (J_callV (a1 := (0, 0)) (a2 := (0, 0)) (mm' := mX1_has) (S := []) [jI x2] md_X1_has im_X1_has se_X1_has dX1_act_104 wm_X1_40 jcl_X1.1 rfl hh.1 rfl rfl (Nat.le_of_ble_eq_true rfl) (Nat.le_of_ble_eq_true rfl) rfl (c_X1_has hh  (fun c1 => (J_if_eq dX1_act_107 (tgt := 136) (by decide) (fun c => absurd c (by decide)) (fun _ => (J_aload_n dX1_act_110 rfl (J_getR (k := 3) jcl_X1 dX1_act_111 wf_X1_21 hh.1 (Nat.le_of_ble_eq_true rfl) rfl rfl (J_iload_n dX1_act_114 rfl (J_dup2_RI dX1_act_115 (J_iald dX1_act_116 hh.2.2.2.2 (s1 c1) (s2 c1) (J_iload_n dX1_act_117 rfl (J_callS (a1 := (0, 0)) (a2 := (0, 0)) (mm' := mX1_halvesOf) (S := [jI (M (h + 4) x2), jI x2, jR (h + 4)]) [jI x1] md_X1_halvesOf is_X1_halvesOf dX1_act_118 wm_X1_57 rfl rfl (Nat.le_of_ble_eq_true rfl) (Nat.le_of_ble_eq_true rfl) rfl (c_X1_halvesOf   (J_iadd dX1_act_121 (s3 c1) (J_iast dX1_act_122 hh.2.2.2.2 (s1 c1) (s2 c1) (J_aload_n dX1_act_123 rfl (J_dupR dX1_act_124 (J_getI (k := 5) (kz := 5) jcl_X1 dX1_act_125 wf_X1_50 hh.1 (Nat.le_of_ble_eq_true rfl) rfl rfl (J_iload_n dX1_act_128 rfl (J_callS (a1 := (0, 0)) (a2 := (0, 0)) (mm' := mX1_halvesOf) (S := [jI ((jupd M (h + 4) x2 ((M (h + 4) x2) + (if x1 = 98 then 2 else 1))) h 5), jR h]) [jI x1] md_X1_halvesOf is_X1_halvesOf dX1_act_129 wm_X1_57 rfl rfl (Nat.le_of_ble_eq_true rfl) (Nat.le_of_ble_eq_true rfl) rfl (c_X1_halvesOf   (J_isub dX1_act_132 (s4 c1) (J_putI (k := 5) (kz := 5) jcl_X1 dX1_act_133 wf_X1_50 hh.1 (Nat.le_of_ble_eq_true rfl) rfl rfl rfl (J_vret dX1_act_136 rfl (k1 c1))))))))))))))))))))))) (fun c1 => (J_if_eq dX1_act_107 (tgt := 136) (by decide) (fun _ => (J_vret dX1_act_136 rfl (k2 c1))) (fun c => absurd c (by decide))))))))
theorem b_X1_wake_0 {l : Launch} {z d : Nat} {X : jX} {M : Nat → Int → Int} {Q : Option jV → jM → Prop} {h : Nat} (hh : jHi h)  (k1 : J l z X (d + 2) mX1_wake (0, 0) 2 [jR h, jI 0] [] (jG, M) Q) : J l z X (d + 2) mX1_wake (0, 0) 0 [jR h, jN] [] (jG, M) Q :=
  (J_iconst dX1_wake_0 jc_0 (J_istore_n dX1_wake_1 (Nat.le_of_ble_eq_true rfl) k1))
theorem b_X1_wake_2 {l : Launch} {z d : Nat} {X : jX} {M : Nat → Int → Int} {Q : Option jV → jM → Prop} {h : Nat} {x1 : Int} (hh : jHi h) (s1 : x1 < 6 → hasB (M h 4) x1 = true → 0 ≤ x1) (s2 : x1 < 6 → hasB (M h 4) x1 = true → x1 < 6) (s3 : x1 < 6 → hasB (M h 4) x1 = true → hasB (M h 4) x1 = true → (-1000 ≤ (M (h + 1) x1) ∧ (M (h + 1) x1) ≤ 1000) ∧ (0 ≤ (M (h + 2) x1) ∧ (M (h + 2) x1) ≤ 9)) (k1 : 6 ≤ x1 → (M h 7) ≠ 1 → Q none (jG, (jupd M h 5 0))) (k2 : 6 ≤ x1 → (M h 7) = 1 → Q none (jG, (jupd M h 5 (M h 6)))) (k3 : x1 < 6 → hasB (M h 4) x1 = true → J l z X (d + 2) mX1_wake (0, 0) 46 [jR h, jI x1] [] (jG, (jupd (jupd M (h + 1) x1 (agH (hasB (M h 4) x1) (M (h + 2) x1) (M (h + 3) x1) (M (h + 1) x1) (M (h + 4) x1))) (h + 4) x1 0)) Q) (k4 : x1 < 6 → hasB (M h 4) x1 = false → J l z X (d + 2) mX1_wake (0, 0) 46 [jR h, jI x1] [] (jG, M) Q) : J l z X (d + 2) mX1_wake (0, 0) 2 [jR h, jI x1] [] (jG, M) Q :=
  (J_iload_n dX1_wake_2 rfl (J_bipush dX1_wake_3 jc_6 jb_6 (J_icmp_ge dX1_wake_5 (tgt := 52) (by decide) (fun c1 => (J_aload_n dX1_wake_52 rfl (J_aload_n dX1_wake_53 rfl (J_getI (k := 7) (kz := 7) jcl_X1 dX1_wake_54 wf_X1_28 hh.1 (Nat.le_of_ble_eq_true rfl) rfl rfl (J_iconst dX1_wake_57 jc_1 (J_icmp_ne dX1_wake_58 (tgt := 68) (by decide) (fun c2 => (J_iconst dX1_wake_68 jc_0 (J_putI (k := 5) (kz := 5) jcl_X1 dX1_wake_69 wf_X1_50 hh.1 (Nat.le_of_ble_eq_true rfl) rfl rfl rfl (J_vret dX1_wake_72 rfl (k1 c1 c2))))) (fun c2 => (J_aload_n dX1_wake_61 rfl (J_getI (k := 6) (kz := 6) jcl_X1 dX1_wake_62 wf_X1_24 hh.1 (Nat.le_of_ble_eq_true rfl) rfl rfl (J_goto dX1_wake_65 (tgt := 69) (by decide) (J_putI (k := 5) (kz := 5) jcl_X1 dX1_wake_69 wf_X1_50 hh.1 (Nat.le_of_ble_eq_true rfl) rfl rfl rfl (J_vret dX1_wake_72 rfl (k2 c1 c2))))))))))))) (fun c1 => (J_aload_n dX1_wake_8 rfl (J_iload_n dX1_wake_9 rfl (J_callV (a1 := (0, 0)) (a2 := (0, 0)) (mm' := mX1_has) (S := []) [jI x1] md_X1_has im_X1_has se_X1_has dX1_wake_10 wm_X1_40 jcl_X1.1 rfl hh.1 rfl rfl (Nat.le_of_ble_eq_true rfl) (Nat.le_of_ble_eq_true rfl) rfl (c_X1_has hh  (fun c3 => (J_if_eq dX1_wake_13 (tgt := 46) (by decide) (fun c => absurd c (by decide)) (fun _ => (J_aload_n dX1_wake_16 rfl (J_getR (k := 0) jcl_X1 dX1_wake_17 wf_X1_9 hh.1 (Nat.le_of_ble_eq_true rfl) rfl rfl (J_iload_n dX1_wake_20 rfl (J_aload_n dX1_wake_21 rfl (J_iload_n dX1_wake_22 rfl (J_aload_n dX1_wake_23 rfl (J_getR (k := 0) jcl_X1 dX1_wake_24 wf_X1_9 hh.1 (Nat.le_of_ble_eq_true rfl) rfl rfl (J_iload_n dX1_wake_27 rfl (J_iald dX1_wake_28 hh.2.1 (s1 c1 c3) (s2 c1 c3) (J_aload_n dX1_wake_29 rfl (J_getR (k := 3) jcl_X1 dX1_wake_30 wf_X1_21 hh.1 (Nat.le_of_ble_eq_true rfl) rfl rfl (J_iload_n dX1_wake_33 rfl (J_iald dX1_wake_34 hh.2.2.2.2 (s1 c1 c3) (s2 c1 c3) (J_callV (a1 := (0, 0)) (a2 := (0, 0)) (mm' := mX1_aged) (S := [jI x1, jR (h + 1)]) [jI x1, jI (M (h + 1) x1), jI (M (h + 4) x1)] md_X1_aged im_X1_aged se_X1_aged dX1_wake_35 wm_X1_71 jcl_X1.1 rfl hh.1 rfl rfl (Nat.le_of_ble_eq_true rfl) (Nat.le_of_ble_eq_true rfl) rfl (c_X1_aged hh (s3 c1 c3) (J_iast dX1_wake_38 hh.2.1 (s1 c1 c3) (s2 c1 c3) (J_aload_n dX1_wake_39 rfl (J_getR (k := 3) jcl_X1 dX1_wake_40 wf_X1_21 hh.1 (Nat.le_of_ble_eq_true rfl) rfl rfl (J_iload_n dX1_wake_43 rfl (J_iconst dX1_wake_44 jc_0 (J_iast dX1_wake_45 hh.2.2.2.2 (s1 c1 c3) (s2 c1 c3) (k3 c1 c3))))))))))))))))))))))))) (fun c3 => (J_if_eq dX1_wake_13 (tgt := 46) (by decide) (fun _ => (k4 c1 c3)) (fun c => absurd c (by decide))))))))))))
theorem b_X1_wake_46 {l : Launch} {z d : Nat} {X : jX} {M : Nat → Int → Int} {Q : Option jV → jM → Prop} {h : Nat} {x1 : Int} (hh : jHi h) (s1 : jIn (x1 + 1)) (k1 : J l z X (d + 2) mX1_wake (0, 0) 2 [jR h, jI (x1 + 1)] [] (jG, M) Q) : J l z X (d + 2) mX1_wake (0, 0) 46 [jR h, jI x1] [] (jG, M) Q :=
  (J_iinc dX1_wake_46 rfl jc_1 s1 (J_goto dX1_wake_49 (tgt := 2) (by decide) k1))
theorem b_X1_oldestOne_0 {l : Launch} {z d : Nat} {X : jX} {M : Nat → Int → Int} {Q : Option jV → jM → Prop} {h : Nat} (hh : jHi h)  (k1 : J l z X (d + 1) mX1_oldestOne (0, 0) 7 [jR h, jI (-6), jI (-1), jI 0] [] (jG, M) Q) : J l z X (d + 1) mX1_oldestOne (0, 0) 0 [jR h, jN, jN, jN] [] (jG, M) Q :=
  (J_bipush dX1_oldestOne_0 jc_m6 jb_m6 (J_istore_n dX1_oldestOne_2 (Nat.le_of_ble_eq_true rfl) (J_iconst dX1_oldestOne_3 jc_m1 (J_istore_n dX1_oldestOne_4 (Nat.le_of_ble_eq_true rfl) (J_iconst dX1_oldestOne_5 jc_0 (J_istore_n dX1_oldestOne_6 (Nat.le_of_ble_eq_true rfl) k1))))))
theorem b_X1_oldestOne_7 {l : Launch} {z d : Nat} {X : jX} {M : Nat → Int → Int} {Q : Option jV → jM → Prop} {h : Nat} {x1 : Int} {x2 : Int} {x3 : Int} (hh : jHi h) (s1 : x3 < 6 → hasB (M h 4) x3 = true → 0 ≤ x3) (s2 : x3 < 6 → hasB (M h 4) x3 = true → x3 < 6) (s3 : x3 < 6 → hasB (M h 4) x3 = true → x2 < (M (h + 1) x3) → 0 ≤ x3) (s4 : x3 < 6 → hasB (M h 4) x3 = true → x2 < (M (h + 1) x3) → x3 < 6) (k1 : 6 ≤ x3 → Q (some (jI x1)) (jG, M)) (k2 : x3 < 6 → hasB (M h 4) x3 = true → (M (h + 1) x3) ≤ x2 → J l z X (d + 1) mX1_oldestOne (0, 0) 40 [jR h, jI x1, jI x2, jI x3] [] (jG, M) Q) (k3 : x3 < 6 → hasB (M h 4) x3 = true → x2 < (M (h + 1) x3) → J l z X (d + 1) mX1_oldestOne (0, 0) 40 [jR h, jI x3, jI (M (h + 1) x3), jI x3] [] (jG, M) Q) (k4 : x3 < 6 → hasB (M h 4) x3 = false → J l z X (d + 1) mX1_oldestOne (0, 0) 40 [jR h, jI x1, jI x2, jI x3] [] (jG, M) Q) : J l z X (d + 1) mX1_oldestOne (0, 0) 7 [jR h, jI x1, jI x2, jI x3] [] (jG, M) Q :=
  (J_iload_n dX1_oldestOne_7 rfl (J_bipush dX1_oldestOne_8 jc_6 jb_6 (J_icmp_ge dX1_oldestOne_10 (tgt := 46) (by decide) (fun c1 => (J_iload_n dX1_oldestOne_46 rfl (J_iret dX1_oldestOne_47 rfl (k1 c1)))) (fun c1 => (J_aload_n dX1_oldestOne_13 rfl (J_iload_n dX1_oldestOne_14 rfl (J_callV (a1 := (0, 0)) (a2 := (0, 0)) (mm' := mX1_has) (S := []) [jI x3] md_X1_has im_X1_has se_X1_has dX1_oldestOne_15 wm_X1_40 jcl_X1.1 rfl hh.1 rfl rfl (Nat.le_of_ble_eq_true rfl) (Nat.le_of_ble_eq_true rfl) rfl (c_X1_has hh  (fun c2 => (J_if_eq dX1_oldestOne_18 (tgt := 40) (by decide) (fun c => absurd c (by decide)) (fun _ => (J_aload_n dX1_oldestOne_21 rfl (J_getR (k := 0) jcl_X1 dX1_oldestOne_22 wf_X1_9 hh.1 (Nat.le_of_ble_eq_true rfl) rfl rfl (J_iload_n dX1_oldestOne_25 rfl (J_iald dX1_oldestOne_26 hh.2.1 (s1 c1 c2) (s2 c1 c2) (J_iload_n dX1_oldestOne_27 rfl (J_icmp_le dX1_oldestOne_28 (tgt := 40) (by decide) (fun c3 => (k2 c1 c2 c3)) (fun c3 => (J_iload_n dX1_oldestOne_31 rfl (J_istore_n dX1_oldestOne_32 (Nat.le_of_ble_eq_true rfl) (J_aload_n dX1_oldestOne_33 rfl (J_getR (k := 0) jcl_X1 dX1_oldestOne_34 wf_X1_9 hh.1 (Nat.le_of_ble_eq_true rfl) rfl rfl (J_iload_n dX1_oldestOne_37 rfl (J_iald dX1_oldestOne_38 hh.2.1 (s3 c1 c2 c3) (s4 c1 c2 c3) (J_istore_n dX1_oldestOne_39 (Nat.le_of_ble_eq_true rfl) (k3 c1 c2 c3)))))))))))))))))) (fun c2 => (J_if_eq dX1_oldestOne_18 (tgt := 40) (by decide) (fun _ => (k4 c1 c2)) (fun c => absurd c (by decide))))))))))))
theorem b_X1_oldestOne_40 {l : Launch} {z d : Nat} {X : jX} {M : Nat → Int → Int} {Q : Option jV → jM → Prop} {h : Nat} {x1 : Int} {x2 : Int} {x3 : Int} (hh : jHi h) (s1 : jIn (x3 + 1)) (k1 : J l z X (d + 1) mX1_oldestOne (0, 0) 7 [jR h, jI x1, jI x2, jI (x3 + 1)] [] (jG, M) Q) : J l z X (d + 1) mX1_oldestOne (0, 0) 40 [jR h, jI x1, jI x2, jI x3] [] (jG, M) Q :=
  (J_iinc dX1_oldestOne_40 rfl jc_1 s1 (J_goto dX1_oldestOne_43 (tgt := 7) (by decide) k1))
theorem b_X1_looksTogether_0 {l : Launch} {z d : Nat} {X : jX} {M : Nat → Int → Int} {Q : Option jV → jM → Prop} {h : Nat} (hh : jHi h)  (k1 : J l z X (d + 1) mX1_looksTogether (0, 0) 4 [jR h, jI 0, jI 0] [] (jG, M) Q) : J l z X (d + 1) mX1_looksTogether (0, 0) 0 [jR h, jN, jN] [] (jG, M) Q :=
  (J_iconst dX1_looksTogether_0 jc_0 (J_istore_n dX1_looksTogether_1 (Nat.le_of_ble_eq_true rfl) (J_iconst dX1_looksTogether_2 jc_0 (J_istore_n dX1_looksTogether_3 (Nat.le_of_ble_eq_true rfl) k1))))
theorem b_X1_looksTogether_4 {l : Launch} {z d : Nat} {X : jX} {M : Nat → Int → Int} {Q : Option jV → jM → Prop} {h : Nat} {x1 : Int} {x2 : Int} (hh : jHi h) (s1 : x2 < 6 → hasB (M h 4) x2 = true → 0 ≤ x2) (s2 : x2 < 6 → hasB (M h 4) x2 = true → x2 < 6) (k1 : 6 ≤ x2 → Q (some (jI x1)) (jG, M)) (k2 : x2 < 6 → hasB (M h 4) x2 = true → J l z X (d + 1) mX1_looksTogether (0, 0) 29 [jR h, jI x1, jI x2] [jI (M (h + 1) x2), jI x1] (jG, M) Q) (k3 : x2 < 6 → hasB (M h 4) x2 = false → J l z X (d + 1) mX1_looksTogether (0, 0) 29 [jR h, jI x1, jI x2] [jI 0, jI x1] (jG, M) Q) : J l z X (d + 1) mX1_looksTogether (0, 0) 4 [jR h, jI x1, jI x2] [] (jG, M) Q :=
  (J_iload_n dX1_looksTogether_4 rfl (J_bipush dX1_looksTogether_5 jc_6 jb_6 (J_icmp_ge dX1_looksTogether_7 (tgt := 37) (by decide) (fun c1 => (J_iload_n dX1_looksTogether_37 rfl (J_iret dX1_looksTogether_38 rfl (k1 c1)))) (fun c1 => (J_iload_n dX1_looksTogether_10 rfl (J_aload_n dX1_looksTogether_11 rfl (J_iload_n dX1_looksTogether_12 rfl (J_callV (a1 := (0, 0)) (a2 := (0, 0)) (mm' := mX1_has) (S := [jI x1]) [jI x2] md_X1_has im_X1_has se_X1_has dX1_looksTogether_13 wm_X1_40 jcl_X1.1 rfl hh.1 rfl rfl (Nat.le_of_ble_eq_true rfl) (Nat.le_of_ble_eq_true rfl) rfl (c_X1_has hh  (fun c2 => (J_if_eq dX1_looksTogether_16 (tgt := 28) (by decide) (fun c => absurd c (by decide)) (fun _ => (J_aload_n dX1_looksTogether_19 rfl (J_getR (k := 0) jcl_X1 dX1_looksTogether_20 wf_X1_9 hh.1 (Nat.le_of_ble_eq_true rfl) rfl rfl (J_iload_n dX1_looksTogether_23 rfl (J_iald dX1_looksTogether_24 hh.2.1 (s1 c1 c2) (s2 c1 c2) (J_goto dX1_looksTogether_25 (tgt := 29) (by decide) (k2 c1 c2))))))))) (fun c2 => (J_if_eq dX1_looksTogether_16 (tgt := 28) (by decide) (fun _ => (J_iconst dX1_looksTogether_28 jc_0 (k3 c1 c2))) (fun c => absurd c (by decide)))))))))))))
theorem b_X1_looksTogether_29 {l : Launch} {z d : Nat} {X : jX} {M : Nat → Int → Int} {Q : Option jV → jM → Prop} {h : Nat} {x1 : Int} {x2 : Int} {t0 : Int} {t1 : Int} (hh : jHi h) (s1 : jIn (t0 + t1)) (s2 : jIn (x2 + 1)) (k1 : J l z X (d + 1) mX1_looksTogether (0, 0) 4 [jR h, jI (t0 + t1), jI (x2 + 1)] [] (jG, M) Q) : J l z X (d + 1) mX1_looksTogether (0, 0) 29 [jR h, jI x1, jI x2] [jI t1, jI t0] (jG, M) Q :=
  (J_iadd dX1_looksTogether_29 s1 (J_istore_n dX1_looksTogether_30 (Nat.le_of_ble_eq_true rfl) (J_iinc dX1_looksTogether_31 rfl jc_1 s2 (J_goto dX1_looksTogether_34 (tgt := 4) (by decide) k1))))
theorem b_X2_keep_0 {l : Launch} {z d : Nat} {X : jX} {M : Nat → Int → Int} {Q : Option jV → jM → Prop} {h : Nat} (hh : jIm h)  (k1 : J l z X (d + 1) mX1_takeOver (0, 0) 0 [jR (h + 1), jR 1] [] (jG, M) (fun r μ => J l z X (d + 2) mX2_keep (0, 0) 8 [jR h, jR 1, jR 68] (r.toList ++ []) μ Q)) : J l z X (d + 2) mX2_keep (0, 0) 0 [jR h, jR 1, jR 68] [] (jG, M) Q :=
  (J_aload_n dX2_keep_0 rfl (J_getR (k := 0) jcl_X2 dX2_keep_1 wf_X2_10 hh.1 (Nat.le_of_ble_eq_true rfl) rfl rfl (J_aload_n dX2_keep_4 rfl (J_callV (a1 := (0, 0)) (a2 := (0, 0)) (mm' := mX1_takeOver) (S := []) [jR 1] md_X1_takeOver im_X1_takeOver se_X1_takeOver dX2_keep_5 wm_X2_23 jcl_X1.1 rfl hh.2.1.1 rfl rfl (Nat.le_of_ble_eq_true rfl) (Nat.le_of_ble_eq_true rfl) rfl k1))))
theorem b_X2_keep_8 {l : Launch} {z d : Nat} {X : jX} {M : Nat → Int → Int} {Q : Option jV → jM → Prop} {h : Nat} (hh : jIm h)  (k1 : J l z X (d + 1) mX6_takeOver (0, 0) 0 [jR (h + 6), jR 68] [] (jG, M) (fun r μ => J l z X (d + 2) mX2_keep (0, 0) 16 [jR h, jR 1, jR 68] (r.toList ++ []) μ Q)) : J l z X (d + 2) mX2_keep (0, 0) 8 [jR h, jR 1, jR 68] [] (jG, M) Q :=
  (J_aload_n dX2_keep_8 rfl (J_getR (k := 1) jcl_X2 dX2_keep_9 wf_X2_19 hh.1 (Nat.le_of_ble_eq_true rfl) rfl rfl (J_aload_n dX2_keep_12 rfl (J_callV (a1 := (0, 0)) (a2 := (0, 0)) (mm' := mX6_takeOver) (S := []) [jR 68] md_X6_takeOver im_X6_takeOver se_X6_takeOver dX2_keep_13 wm_X2_27 jcl_X6.1 rfl hh.2.2.1 rfl rfl (Nat.le_of_ble_eq_true rfl) (Nat.le_of_ble_eq_true rfl) rfl k1))))
theorem b_X2_keep_16 {l : Launch} {z d : Nat} {X : jX} {M : Nat → Int → Int} {Q : Option jV → jM → Prop} {h : Nat} (hh : jIm h)  (k1 : Q none (jG, (jupd M h 2 1))) : J l z X (d + 2) mX2_keep (0, 0) 16 [jR h, jR 1, jR 68] [] (jG, M) Q :=
  (J_aload_n dX2_keep_16 rfl (J_iconst dX2_keep_17 jc_1 (J_putZ (k := 2) (kz := 2) jcl_X2 dX2_keep_18 wf_X2_30 hh.1 (Nat.le_of_ble_eq_true rfl) rfl rfl rfl (Or.inr rfl) (J_vret dX2_keep_21 rfl k1))))
theorem b_X2_giveBack_0 {l : Launch} {z d : Nat} {X : jX} {M : Nat → Int → Int} {Q : Option jV → jM → Prop} {h : Nat} (hh : jIm h)  (k1 : J l z X (d + 1) mX1_takeOver (0, 0) 0 [jR 1, jR (h + 1)] [] (jG, M) (fun r μ => J l z X (d + 2) mX2_giveBack (0, 0) 8 [jR h, jR 1, jR 68] (r.toList ++ []) μ Q)) : J l z X (d + 2) mX2_giveBack (0, 0) 0 [jR h, jR 1, jR 68] [] (jG, M) Q :=
  (J_aload_n dX2_giveBack_0 rfl (J_aload_n dX2_giveBack_1 rfl (J_getR (k := 0) jcl_X2 dX2_giveBack_2 wf_X2_10 hh.1 (Nat.le_of_ble_eq_true rfl) rfl rfl (J_callV (a1 := (0, 0)) (a2 := (0, 0)) (mm' := mX1_takeOver) (S := []) [jR (h + 1)] md_X1_takeOver im_X1_takeOver se_X1_takeOver dX2_giveBack_5 wm_X2_23 jcl_X1.1 rfl g_1 rfl rfl (Nat.le_of_ble_eq_true rfl) (Nat.le_of_ble_eq_true rfl) rfl k1))))
theorem b_X2_giveBack_8 {l : Launch} {z d : Nat} {X : jX} {M : Nat → Int → Int} {Q : Option jV → jM → Prop} {h : Nat} (hh : jIm h)  (k1 : J l z X (d + 1) mX6_takeOver (0, 0) 0 [jR 68, jR (h + 6)] [] (jG, M) (fun r μ => J l z X (d + 2) mX2_giveBack (0, 0) 16 [jR h, jR 1, jR 68] (r.toList ++ []) μ Q)) : J l z X (d + 2) mX2_giveBack (0, 0) 8 [jR h, jR 1, jR 68] [] (jG, M) Q :=
  (J_aload_n dX2_giveBack_8 rfl (J_aload_n dX2_giveBack_9 rfl (J_getR (k := 1) jcl_X2 dX2_giveBack_10 wf_X2_19 hh.1 (Nat.le_of_ble_eq_true rfl) rfl rfl (J_callV (a1 := (0, 0)) (a2 := (0, 0)) (mm' := mX6_takeOver) (S := []) [jR (h + 6)] md_X6_takeOver im_X6_takeOver se_X6_takeOver dX2_giveBack_13 wm_X2_27 jcl_X6.1 rfl g_68 rfl rfl (Nat.le_of_ble_eq_true rfl) (Nat.le_of_ble_eq_true rfl) rfl k1))))
theorem b_X2_giveBack_16 {l : Launch} {z d : Nat} {X : jX} {M : Nat → Int → Int} {Q : Option jV → jM → Prop} {h : Nat} (hh : jIm h)  (k1 : Q none (jG, M)) : J l z X (d + 2) mX2_giveBack (0, 0) 16 [jR h, jR 1, jR 68] [] (jG, M) Q :=
  (J_vret dX2_giveBack_16 rfl k1)
theorem b_X4_add_0 {l : Launch} {z d : Nat} {X : jX} {M : Nat → Int → Int} {Q : Option jV → jM → Prop} {x1 : Int}  (s1 : 0 ≤ (M 6 4) → (M 6 4) < 60 → 0 ≤ (M 6 4)) (s2 : 0 ≤ (M 6 4) → (M 6 4) < 60 → (M 6 4) < 60) (s3 : 0 ≤ (M 6 4) → (M 6 4) < 60 → jIn (((jupd M 7 (M 6 4) x1) 6 4) + 1)) (k1 : (M 6 4) < 0 → Q (some (jI 0)) (jG, M)) (k2 : 0 ≤ (M 6 4) → (M 6 4) < 60 → Q (some (jI 1)) (jG, (jupd (jupd M 7 (M 6 4) x1) 6 4 (((jupd M 7 (M 6 4) x1) 6 4) + 1)))) (k3 : 0 ≤ (M 6 4) → 60 ≤ (M 6 4) → Q (some (jI 0)) (jG, M)) : J l z X d mX4_add (0, 0) 0 [jR 6, jI x1] [] (jG, M) Q :=
  (J_aload_n dX4_add_0 rfl (J_getI (k := 4) (kz := 4) jcl_X4 dX4_add_1 wf_X4_24 g_6 (Nat.le_of_ble_eq_true rfl) rfl rfl (J_if_lt dX4_add_4 (tgt := 16) (by decide) (fun c1 => (J_iconst dX4_add_16 jc_0 (J_zret dX4_add_17 rfl (Or.inl rfl) (k1 c1)))) (fun c1 => (J_aload_n dX4_add_7 rfl (J_getI (k := 4) (kz := 4) jcl_X4 dX4_add_8 wf_X4_24 g_6 (Nat.le_of_ble_eq_true rfl) rfl rfl (J_bipush dX4_add_11 jc_60 jb_60 (J_icmp_lt dX4_add_13 (tgt := 18) (by decide) (fun c2 => (J_aload_n dX4_add_18 rfl (J_getR (k := 0) jcl_X4 dX4_add_19 wf_X4_11 g_6 (Nat.le_of_ble_eq_true rfl) rfl rfl (J_aload_n dX4_add_22 rfl (J_getI (k := 4) (kz := 4) jcl_X4 dX4_add_23 wf_X4_24 g_6 (Nat.le_of_ble_eq_true rfl) rfl rfl (J_iload_n dX4_add_26 rfl (J_iast dX4_add_27 g_7 (s1 c1 c2) (s2 c1 c2) (J_aload_n dX4_add_28 rfl (J_dupR dX4_add_29 (J_getI (k := 4) (kz := 4) jcl_X4 dX4_add_30 wf_X4_24 g_6 (Nat.le_of_ble_eq_true rfl) rfl rfl (J_iconst dX4_add_33 jc_1 (J_iadd dX4_add_34 (s3 c1 c2) (J_putI (k := 4) (kz := 4) jcl_X4 dX4_add_35 wf_X4_24 g_6 (Nat.le_of_ble_eq_true rfl) rfl rfl rfl (J_iconst dX4_add_38 jc_1 (J_zret dX4_add_39 rfl (Or.inr rfl) (k2 c1 c2)))))))))))))))) (fun c2 => (J_iconst dX4_add_16 jc_0 (J_zret dX4_add_17 rfl (Or.inl rfl) (k3 c1 c2))))))))))))
theorem b_X4_read_0 {l : Launch} {z d : Nat} {X : jX} {M : Nat → Int → Int} {Q : Option jV → jM → Prop}    (k1 : J l z X (d + 1) mX4_read (0, 0) 11 [jR 6, jI 0, jI 0, jI 0, jN] [] (jG, (jupd M 6 5 0)) Q) : J l z X (d + 1) mX4_read (0, 0) 0 [jR 6, jN, jN, jN, jN] [] (jG, M) Q :=
  (J_aload_n dX4_read_0 rfl (J_iconst dX4_read_1 jc_0 (J_putI (k := 5) (kz := 5) jcl_X4 dX4_read_2 wf_X4_28 g_6 (Nat.le_of_ble_eq_true rfl) rfl rfl rfl (J_iconst dX4_read_5 jc_0 (J_istore_n dX4_read_6 (Nat.le_of_ble_eq_true rfl) (J_iconst dX4_read_7 jc_0 (J_istore_n dX4_read_8 (Nat.le_of_ble_eq_true rfl) (J_iconst dX4_read_9 jc_0 (J_istore_n dX4_read_10 (Nat.le_of_ble_eq_true rfl) k1)))))))))
theorem b_X4_read_11 {l : Launch} {z d : Nat} {X : jX} {M : Nat → Int → Int} {Q : Option jV → jM → Prop} {x1 : Int} {x2 : Int} {x3 : Int}  (s1 : x3 < (M 6 4) → x3 < 60 → 0 ≤ x3) (s2 : x3 < (M 6 4) → x3 < 60 → x3 < 60) (s3 : x3 < (M 6 4) → x3 < 60 → x1 = 0 → 65 ≤ (M 7 x3) ∧ (M 7 x3) ≤ 70 → jIn ((M 7 x3) - 65)) (k1 : (M 6 4) ≤ x3 → J l z X (d + 1) mX4_read (0, 0) 179 [jR 6, jI x1, jI x2, jI x3, jN] [] (jG, M) Q) (k2 : x3 < (M 6 4) → 60 ≤ x3 → J l z X (d + 1) mX4_read (0, 0) 179 [jR 6, jI x1, jI x2, jI x3, jN] [] (jG, M) Q) (k3 : x3 < (M 6 4) → x3 < 60 → x1 ≠ 0 → J l z X (d + 1) mX4_read (0, 0) 56 [jR 6, jI x1, jI x2, jI x3, jI (M 7 x3)] [] (jG, M) Q) (k4 : x3 < (M 6 4) → x3 < 60 → x1 = 0 → 65 ≤ (M 7 x3) ∧ (M 7 x3) ≤ 70 → J l z X (d + 1) mX4_read (0, 0) 173 [jR 6, jI 1, jI ((M 7 x3) - 65), jI x3, jI (M 7 x3)] [] (jG, M) Q) (k5 : x3 < (M 6 4) → x3 < 60 → x1 = 0 → ¬ (65 ≤ (M 7 x3) ∧ (M 7 x3) ≤ 70) → J l z X (d + 1) mX4_read (0, 0) 56 [jR 6, jI x1, jI x2, jI x3, jI (M 7 x3)] [] (jG, M) Q) : J l z X (d + 1) mX4_read (0, 0) 11 [jR 6, jI x1, jI x2, jI x3, jN] [] (jG, M) Q :=
  (J_iload_n dX4_read_11 rfl (J_aload_n dX4_read_12 rfl (J_getI (k := 4) (kz := 4) jcl_X4 dX4_read_13 wf_X4_24 g_6 (Nat.le_of_ble_eq_true rfl) rfl rfl (J_icmp_ge dX4_read_16 (tgt := 179) (by decide) (fun c1 => (k1 c1)) (fun c1 => (J_iload_n dX4_read_19 rfl (J_bipush dX4_read_20 jc_60 jb_60 (J_icmp_ge dX4_read_22 (tgt := 179) (by decide) (fun c2 => (k2 c1 c2)) (fun c2 => (J_aload_n dX4_read_25 rfl (J_getR (k := 0) jcl_X4 dX4_read_26 wf_X4_11 g_6 (Nat.le_of_ble_eq_true rfl) rfl rfl (J_iload_n dX4_read_29 rfl (J_iald dX4_read_30 g_7 (s1 c1 c2) (s2 c1 c2) (J_istore dX4_read_31 (Nat.le_of_ble_eq_true rfl) (J_iload_n dX4_read_33 rfl (J_if_ne dX4_read_34 (tgt := 56) (by decide) (fun c3 => (k3 c1 c2 c3)) (fun c3 => (J_iload dX4_read_37 rfl (J_callS (a1 := (0, 0)) (a2 := (0, 0)) (mm' := mX4_isLetter) (S := []) [jI (M 7 x3)] md_X4_isLetter is_X4_isLetter dX4_read_39 wm_X4_31 rfl rfl (Nat.le_of_ble_eq_true rfl) (Nat.le_of_ble_eq_true rfl) rfl (c_X4_isLetter   (fun c4 => (J_if_eq dX4_read_42 (tgt := 56) (by decide) (fun c => absurd c (by decide)) (fun _ => (J_iload dX4_read_45 rfl (J_bipush dX4_read_47 jc_65 jb_65 (J_isub dX4_read_49 (s3 c1 c2 c3 c4) (J_istore_n dX4_read_50 (Nat.le_of_ble_eq_true rfl) (J_iconst dX4_read_51 jc_1 (J_istore_n dX4_read_52 (Nat.le_of_ble_eq_true rfl) (J_goto dX4_read_53 (tgt := 173) (by decide) (k4 c1 c2 c3 c4))))))))))) (fun c4 => (J_if_eq dX4_read_42 (tgt := 56) (by decide) (fun _ => (k5 c1 c2 c3 c4)) (fun c => absurd c (by decide))))))))))))))))))))))))
theorem b_X4_read_56 {l : Launch} {z d : Nat} {X : jX} {M : Nat → Int → Int} {Q : Option jV → jM → Prop} {x1 : Int} {x2 : Int} {x3 : Int} {x4 : Int}   (k1 : x1 ≠ 0 → J l z X (d + 1) mX4_read (0, 0) 85 [jR 6, jI x1, jI x2, jI x3, jI x4] [] (jG, M) Q) (k2 : x1 = 0 → x4 = 33 → J l z X (d + 1) mX4_read (0, 0) 74 [jR 6, jI x1, jI x2, jI x3, jI x4] [] (jG, M) Q) (k3 : x1 = 0 → x4 ≠ 33 → x4 ≠ 46 → J l z X (d + 1) mX4_read (0, 0) 85 [jR 6, jI x1, jI x2, jI x3, jI x4] [] (jG, M) Q) (k4 : x1 = 0 → x4 ≠ 33 → x4 = 46 → J l z X (d + 1) mX4_read (0, 0) 74 [jR 6, jI x1, jI x2, jI x3, jI x4] [] (jG, M) Q) : J l z X (d + 1) mX4_read (0, 0) 56 [jR 6, jI x1, jI x2, jI x3, jI x4] [] (jG, M) Q :=
  (J_iload_n dX4_read_56 rfl (J_if_ne dX4_read_57 (tgt := 85) (by decide) (fun c1 => (k1 c1)) (fun c1 => (J_iload dX4_read_60 rfl (J_bipush dX4_read_62 jc_33 jb_33 (J_icmp_eq dX4_read_64 (tgt := 74) (by decide) (fun c2 => (k2 c1 c2)) (fun c2 => (J_iload dX4_read_67 rfl (J_bipush dX4_read_69 jc_46 jb_46 (J_icmp_ne dX4_read_71 (tgt := 85) (by decide) (fun c3 => (k3 c1 c2 c3)) (fun c3 => (k4 c1 c2 c3))))))))))))
theorem b_X4_read_74 {l : Launch} {z d : Nat} {X : jX} {M : Nat → Int → Int} {Q : Option jV → jM → Prop} {x1 : Int} {x2 : Int} {x3 : Int} {x4 : Int}   (k1 : J l z X d mX4_addAct (0, 0) 0 [jR 6, jI x4, jI 0, jI 0] [] (jG, M) (fun r μ => J l z X (d + 1) mX4_read (0, 0) 82 [jR 6, jI x1, jI x2, jI x3, jI x4] (r.toList ++ []) μ Q)) : J l z X (d + 1) mX4_read (0, 0) 74 [jR 6, jI x1, jI x2, jI x3, jI x4] [] (jG, M) Q :=
  (J_aload_n dX4_read_74 rfl (J_iload dX4_read_75 rfl (J_iconst dX4_read_77 jc_0 (J_iconst dX4_read_78 jc_0 (J_callV (a1 := (0, 0)) (a2 := (0, 0)) (mm' := mX4_addAct) (S := []) [jI x4, jI 0, jI 0] md_X4_addAct im_X4_addAct se_X4_addAct dX4_read_79 wm_X4_35 jcl_X4.1 rfl g_6 rfl rfl (Nat.le_of_ble_eq_true rfl) (Nat.le_of_ble_eq_true rfl) rfl k1)))))
theorem b_X4_read_82 {l : Launch} {z d : Nat} {X : jX} {M : Nat → Int → Int} {Q : Option jV → jM → Prop} {x1 : Int} {x2 : Int} {x3 : Int} {x4 : Int}   (k1 : J l z X (d + 1) mX4_read (0, 0) 173 [jR 6, jI x1, jI x2, jI x3, jI x4] [] (jG, M) Q) : J l z X (d + 1) mX4_read (0, 0) 82 [jR 6, jI x1, jI x2, jI x3, jI x4] [] (jG, M) Q :=
  (J_goto dX4_read_82 (tgt := 173) (by decide) k1)
theorem b_X4_read_85 {l : Launch} {z d : Nat} {X : jX} {M : Nat → Int → Int} {Q : Option jV → jM → Prop} {x1 : Int} {x2 : Int} {x3 : Int} {x4 : Int}   (k1 : x1 ≠ 1 → J l z X (d + 1) mX4_read (0, 0) 124 [jR 6, jI x1, jI x2, jI x3, jI x4] [] (jG, M) Q) (k2 : x1 = 1 → x4 = 98 → J l z X (d + 1) mX4_read (0, 0) 111 [jR 6, jI x1, jI x2, jI x3, jI x4] [] (jG, M) Q) (k3 : x1 = 1 → x4 ≠ 98 → x4 = 104 → J l z X (d + 1) mX4_read (0, 0) 111 [jR 6, jI x1, jI x2, jI x3, jI x4] [] (jG, M) Q) (k4 : x1 = 1 → x4 ≠ 98 → x4 ≠ 104 → x4 ≠ 120 → J l z X (d + 1) mX4_read (0, 0) 124 [jR 6, jI x1, jI x2, jI x3, jI x4] [] (jG, M) Q) (k5 : x1 = 1 → x4 ≠ 98 → x4 ≠ 104 → x4 = 120 → J l z X (d + 1) mX4_read (0, 0) 111 [jR 6, jI x1, jI x2, jI x3, jI x4] [] (jG, M) Q) : J l z X (d + 1) mX4_read (0, 0) 85 [jR 6, jI x1, jI x2, jI x3, jI x4] [] (jG, M) Q :=
  (J_iload_n dX4_read_85 rfl (J_iconst dX4_read_86 jc_1 (J_icmp_ne dX4_read_87 (tgt := 124) (by decide) (fun c1 => (k1 c1)) (fun c1 => (J_iload dX4_read_90 rfl (J_bipush dX4_read_92 jc_98 jb_98 (J_icmp_eq dX4_read_94 (tgt := 111) (by decide) (fun c2 => (k2 c1 c2)) (fun c2 => (J_iload dX4_read_97 rfl (J_bipush dX4_read_99 jc_104 jb_104 (J_icmp_eq dX4_read_101 (tgt := 111) (by decide) (fun c3 => (k3 c1 c2 c3)) (fun c3 => (J_iload dX4_read_104 rfl (J_bipush dX4_read_106 jc_120 jb_120 (J_icmp_ne dX4_read_108 (tgt := 124) (by decide) (fun c4 => (k4 c1 c2 c3 c4)) (fun c4 => (k5 c1 c2 c3 c4)))))))))))))))))
theorem b_X4_read_111 {l : Launch} {z d : Nat} {X : jX} {M : Nat → Int → Int} {Q : Option jV → jM → Prop} {x1 : Int} {x2 : Int} {x3 : Int} {x4 : Int}   (k1 : J l z X d mX4_addAct (0, 0) 0 [jR 6, jI x4, jI x2, jI x2] [] (jG, M) (fun r μ => J l z X (d + 1) mX4_read (0, 0) 119 [jR 6, jI x1, jI x2, jI x3, jI x4] (r.toList ++ []) μ Q)) : J l z X (d + 1) mX4_read (0, 0) 111 [jR 6, jI x1, jI x2, jI x3, jI x4] [] (jG, M) Q :=
  (J_aload_n dX4_read_111 rfl (J_iload dX4_read_112 rfl (J_iload_n dX4_read_114 rfl (J_iload_n dX4_read_115 rfl (J_callV (a1 := (0, 0)) (a2 := (0, 0)) (mm' := mX4_addAct) (S := []) [jI x4, jI x2, jI x2] md_X4_addAct im_X4_addAct se_X4_addAct dX4_read_116 wm_X4_35 jcl_X4.1 rfl g_6 rfl rfl (Nat.le_of_ble_eq_true rfl) (Nat.le_of_ble_eq_true rfl) rfl k1)))))
theorem b_X4_read_119 {l : Launch} {z d : Nat} {X : jX} {M : Nat → Int → Int} {Q : Option jV → jM → Prop} {x1 : Int} {x2 : Int} {x3 : Int} {x4 : Int}   (k1 : J l z X (d + 1) mX4_read (0, 0) 173 [jR 6, jI 0, jI x2, jI x3, jI x4] [] (jG, M) Q) : J l z X (d + 1) mX4_read (0, 0) 119 [jR 6, jI x1, jI x2, jI x3, jI x4] [] (jG, M) Q :=
  (J_iconst dX4_read_119 jc_0 (J_istore_n dX4_read_120 (Nat.le_of_ble_eq_true rfl) (J_goto dX4_read_121 (tgt := 173) (by decide) k1)))
theorem b_X4_read_124 {l : Launch} {z d : Nat} {X : jX} {M : Nat → Int → Int} {Q : Option jV → jM → Prop} {x1 : Int} {x2 : Int} {x3 : Int} {x4 : Int}   (k1 : x1 ≠ 1 → J l z X (d + 1) mX4_read (0, 0) 141 [jR 6, jI x1, jI x2, jI x3, jI x4] [] (jG, M) Q) (k2 : x1 = 1 → x4 ≠ 62 → J l z X (d + 1) mX4_read (0, 0) 141 [jR 6, jI x1, jI x2, jI x3, jI x4] [] (jG, M) Q) (k3 : x1 = 1 → x4 = 62 → J l z X (d + 1) mX4_read (0, 0) 173 [jR 6, jI 2, jI x2, jI x3, jI x4] [] (jG, M) Q) : J l z X (d + 1) mX4_read (0, 0) 124 [jR 6, jI x1, jI x2, jI x3, jI x4] [] (jG, M) Q :=
  (J_iload_n dX4_read_124 rfl (J_iconst dX4_read_125 jc_1 (J_icmp_ne dX4_read_126 (tgt := 141) (by decide) (fun c1 => (k1 c1)) (fun c1 => (J_iload dX4_read_129 rfl (J_bipush dX4_read_131 jc_62 jb_62 (J_icmp_ne dX4_read_133 (tgt := 141) (by decide) (fun c2 => (k2 c1 c2)) (fun c2 => (J_iconst dX4_read_136 jc_2 (J_istore_n dX4_read_137 (Nat.le_of_ble_eq_true rfl) (J_goto dX4_read_138 (tgt := 173) (by decide) (k3 c1 c2))))))))))))
theorem b_X4_read_141 {l : Launch} {z d : Nat} {X : jX} {M : Nat → Int → Int} {Q : Option jV → jM → Prop} {x1 : Int} {x2 : Int} {x3 : Int} {x4 : Int}  (s1 : x1 = 2 → 65 ≤ x4 ∧ x4 ≤ 70 → jIn (x4 - 65)) (k1 : x1 ≠ 2 → Q (some (jI x3)) (jG, M)) (k2 : x1 = 2 → 65 ≤ x4 ∧ x4 ≤ 70 → J l z X d mX4_addAct (0, 0) 0 [jR 6, jI 62, jI x2, jI (x4 - 65)] [] (jG, M) (fun r μ => J l z X (d + 1) mX4_read (0, 0) 166 [jR 6, jI x1, jI x2, jI x3, jI x4] (r.toList ++ []) μ Q)) (k3 : x1 = 2 → ¬ (65 ≤ x4 ∧ x4 ≤ 70) → Q (some (jI x3)) (jG, M)) : J l z X (d + 1) mX4_read (0, 0) 141 [jR 6, jI x1, jI x2, jI x3, jI x4] [] (jG, M) Q :=
  (J_iload_n dX4_read_141 rfl (J_iconst dX4_read_142 jc_2 (J_icmp_ne dX4_read_143 (tgt := 171) (by decide) (fun c1 => (J_iload_n dX4_read_171 rfl (J_iret dX4_read_172 rfl (k1 c1)))) (fun c1 => (J_iload dX4_read_146 rfl (J_callS (a1 := (0, 0)) (a2 := (0, 0)) (mm' := mX4_isLetter) (S := []) [jI x4] md_X4_isLetter is_X4_isLetter dX4_read_148 wm_X4_31 rfl rfl (Nat.le_of_ble_eq_true rfl) (Nat.le_of_ble_eq_true rfl) rfl (c_X4_isLetter   (fun c2 => (J_if_eq dX4_read_151 (tgt := 171) (by decide) (fun c => absurd c (by decide)) (fun _ => (J_aload_n dX4_read_154 rfl (J_bipush dX4_read_155 jc_62 jb_62 (J_iload_n dX4_read_157 rfl (J_iload dX4_read_158 rfl (J_bipush dX4_read_160 jc_65 jb_65 (J_isub dX4_read_162 (s1 c1 c2) (J_callV (a1 := (0, 0)) (a2 := (0, 0)) (mm' := mX4_addAct) (S := []) [jI 62, jI x2, jI (x4 - 65)] md_X4_addAct im_X4_addAct se_X4_addAct dX4_read_163 wm_X4_35 jcl_X4.1 rfl g_6 rfl rfl (Nat.le_of_ble_eq_true rfl) (Nat.le_of_ble_eq_true rfl) rfl (k2 c1 c2))))))))))) (fun c2 => (J_if_eq dX4_read_151 (tgt := 171) (by decide) (fun _ => (J_iload_n dX4_read_171 rfl (J_iret dX4_read_172 rfl (k3 c1 c2)))) (fun c => absurd c (by decide)))))))))))
theorem b_X4_read_166 {l : Launch} {z d : Nat} {X : jX} {M : Nat → Int → Int} {Q : Option jV → jM → Prop} {x1 : Int} {x2 : Int} {x3 : Int} {x4 : Int}   (k1 : J l z X (d + 1) mX4_read (0, 0) 173 [jR 6, jI 0, jI x2, jI x3, jI x4] [] (jG, M) Q) : J l z X (d + 1) mX4_read (0, 0) 166 [jR 6, jI x1, jI x2, jI x3, jI x4] [] (jG, M) Q :=
  (J_iconst dX4_read_166 jc_0 (J_istore_n dX4_read_167 (Nat.le_of_ble_eq_true rfl) (J_goto dX4_read_168 (tgt := 173) (by decide) k1)))
theorem b_X4_read_173 {l : Launch} {z d : Nat} {X : jX} {M : Nat → Int → Int} {Q : Option jV → jM → Prop} {x1 : Int} {x2 : Int} {x3 : Int} {x4 : Int}  (s1 : jIn (x3 + 1)) (k1 : J l z X (d + 1) mX4_read (0, 0) 11 [jR 6, jI x1, jI x2, jI (x3 + 1), jN] [] (jG, M) Q) : J l z X (d + 1) mX4_read (0, 0) 173 [jR 6, jI x1, jI x2, jI x3, jI x4] [] (jG, M) Q :=
  (J_iinc dX4_read_173 rfl jc_1 s1 (J_goto dX4_read_176 (tgt := 11) (by decide) (J_weak [jR 6, jI x1, jI x2, jI (x3 + 1), jN] ⟨Or.inr rfl, Or.inr rfl, Or.inr rfl, Or.inr rfl, Or.inl rfl, trivial⟩ k1)))
theorem b_X4_read_179 {l : Launch} {z d : Nat} {X : jX} {M : Nat → Int → Int} {Q : Option jV → jM → Prop} {x1 : Int} {x2 : Int} {x3 : Int}   (k1 : x1 ≠ 0 → Q (some (jI (M 6 4))) (jG, M)) (k2 : x1 = 0 → Q (some (jI (-6))) (jG, M)) : J l z X (d + 1) mX4_read (0, 0) 179 [jR 6, jI x1, jI x2, jI x3, jN] [] (jG, M) Q :=
  (J_iload_n dX4_read_179 rfl (J_if_ne dX4_read_180 (tgt := 188) (by decide) (fun c1 => (J_aload_n dX4_read_188 rfl (J_getI (k := 4) (kz := 4) jcl_X4 dX4_read_189 wf_X4_24 g_6 (Nat.le_of_ble_eq_true rfl) rfl rfl (J_iret dX4_read_192 rfl (k1 c1))))) (fun c1 => (J_bipush dX4_read_183 jc_m6 jb_m6 (J_goto dX4_read_185 (tgt := 192) (by decide) (J_iret dX4_read_192 rfl (k2 c1)))))))
theorem b_X4_addAct_0 {l : Launch} {z d : Nat} {X : jX} {M : Nat → Int → Int} {Q : Option jV → jM → Prop} {x1 : Int} {x2 : Int} {x3 : Int}  (s1 : 0 ≤ (M 6 5) → (M 6 5) < 60 → 0 ≤ (M 6 5)) (s2 : 0 ≤ (M 6 5) → (M 6 5) < 60 → (M 6 5) < 60) (s3 : 0 ≤ (M 6 5) → (M 6 5) < 60 → 0 ≤ ((jupd M 8 (M 6 5) x1) 6 5)) (s4 : 0 ≤ (M 6 5) → (M 6 5) < 60 → ((jupd M 8 (M 6 5) x1) 6 5) < 60) (s5 : 0 ≤ (M 6 5) → (M 6 5) < 60 → 0 ≤ ((jupd (jupd M 8 (M 6 5) x1) 9 ((jupd M 8 (M 6 5) x1) 6 5) x2) 6 5)) (s6 : 0 ≤ (M 6 5) → (M 6 5) < 60 → ((jupd (jupd M 8 (M 6 5) x1) 9 ((jupd M 8 (M 6 5) x1) 6 5) x2) 6 5) < 60) (s7 : 0 ≤ (M 6 5) → (M 6 5) < 60 → jIn (((jupd (jupd (jupd M 8 (M 6 5) x1) 9 ((jupd M 8 (M 6 5) x1) 6 5) x2) 10 ((jupd (jupd M 8 (M 6 5) x1) 9 ((jupd M 8 (M 6 5) x1) 6 5) x2) 6 5) x3) 6 5) + 1)) (k1 : (M 6 5) < 0 → Q none (jG, M)) (k2 : 0 ≤ (M 6 5) → 60 ≤ (M 6 5) → Q none (jG, M)) (k3 : 0 ≤ (M 6 5) → (M 6 5) < 60 → Q none (jG, (jupd (jupd (jupd (jupd M 8 (M 6 5) x1) 9 ((jupd M 8 (M 6 5) x1) 6 5) x2) 10 ((jupd (jupd M 8 (M 6 5) x1) 9 ((jupd M 8 (M 6 5) x1) 6 5) x2) 6 5) x3) 6 5 (((jupd (jupd (jupd M 8 (M 6 5) x1) 9 ((jupd M 8 (M 6 5) x1) 6 5) x2) 10 ((jupd (jupd M 8 (M 6 5) x1) 9 ((jupd M 8 (M 6 5) x1) 6 5) x2) 6 5) x3) 6 5) + 1)))) : J l z X d mX4_addAct (0, 0) 0 [jR 6, jI x1, jI x2, jI x3] [] (jG, M) Q :=
  (J_aload_n dX4_addAct_0 rfl (J_getI (k := 5) (kz := 5) jcl_X4 dX4_addAct_1 wf_X4_28 g_6 (Nat.le_of_ble_eq_true rfl) rfl rfl (J_if_lt dX4_addAct_4 (tgt := 56) (by decide) (fun c1 => (J_vret dX4_addAct_56 rfl (k1 c1))) (fun c1 => (J_aload_n dX4_addAct_7 rfl (J_getI (k := 5) (kz := 5) jcl_X4 dX4_addAct_8 wf_X4_28 g_6 (Nat.le_of_ble_eq_true rfl) rfl rfl (J_bipush dX4_addAct_11 jc_60 jb_60 (J_icmp_ge dX4_addAct_13 (tgt := 56) (by decide) (fun c2 => (J_vret dX4_addAct_56 rfl (k2 c1 c2))) (fun c2 => (J_aload_n dX4_addAct_16 rfl (J_getR (k := 1) jcl_X4 dX4_addAct_17 wf_X4_15 g_6 (Nat.le_of_ble_eq_true rfl) rfl rfl (J_aload_n dX4_addAct_20 rfl (J_getI (k := 5) (kz := 5) jcl_X4 dX4_addAct_21 wf_X4_28 g_6 (Nat.le_of_ble_eq_true rfl) rfl rfl (J_iload_n dX4_addAct_24 rfl (J_iast dX4_addAct_25 g_8 (s1 c1 c2) (s2 c1 c2) (J_aload_n dX4_addAct_26 rfl (J_getR (k := 2) jcl_X4 dX4_addAct_27 wf_X4_18 g_6 (Nat.le_of_ble_eq_true rfl) rfl rfl (J_aload_n dX4_addAct_30 rfl (J_getI (k := 5) (kz := 5) jcl_X4 dX4_addAct_31 wf_X4_28 g_6 (Nat.le_of_ble_eq_true rfl) rfl rfl (J_iload_n dX4_addAct_34 rfl (J_iast dX4_addAct_35 g_9 (s3 c1 c2) (s4 c1 c2) (J_aload_n dX4_addAct_36 rfl (J_getR (k := 3) jcl_X4 dX4_addAct_37 wf_X4_21 g_6 (Nat.le_of_ble_eq_true rfl) rfl rfl (J_aload_n dX4_addAct_40 rfl (J_getI (k := 5) (kz := 5) jcl_X4 dX4_addAct_41 wf_X4_28 g_6 (Nat.le_of_ble_eq_true rfl) rfl rfl (J_iload_n dX4_addAct_44 rfl (J_iast dX4_addAct_45 g_10 (s5 c1 c2) (s6 c1 c2) (J_aload_n dX4_addAct_46 rfl (J_dupR dX4_addAct_47 (J_getI (k := 5) (kz := 5) jcl_X4 dX4_addAct_48 wf_X4_28 g_6 (Nat.le_of_ble_eq_true rfl) rfl rfl (J_iconst dX4_addAct_51 jc_1 (J_iadd dX4_addAct_52 (s7 c1 c2) (J_putI (k := 5) (kz := 5) jcl_X4 dX4_addAct_53 wf_X4_28 g_6 (Nat.le_of_ble_eq_true rfl) rfl rfl rfl (J_vret dX4_addAct_56 rfl (k3 c1 c2)))))))))))))))))))))))))))))))))))
theorem b_X8_live_0 {l : Launch} {z d : Nat} {X : jX} {M : Nat → Int → Int} {Q : Option jV → jM → Prop} {x2 : Int} {x3 : Int}   (k1 : J l z X (d + 3) mX1_takeOver (0, 0) 0 [jR 72, jR 1] [] (jG, M) (fun r μ => J l z X (d + 4) mX8_live (0, 0) 8 [jR 71, jR 1, jI x2, jI x3, jN, jN, jN] (r.toList ++ []) μ Q)) : J l z X (d + 4) mX8_live (0, 0) 0 [jR 71, jR 1, jI x2, jI x3, jN, jN, jN] [] (jG, M) Q :=
  (J_aload_n dX8_live_0 rfl (J_getR (k := 0) jcl_X8 dX8_live_1 wf_X8_12 g_71 (Nat.le_of_ble_eq_true rfl) rfl rfl (J_aload_n dX8_live_4 rfl (J_callV (a1 := (0, 0)) (a2 := (0, 0)) (mm' := mX1_takeOver) (S := []) [jR 1] md_X1_takeOver im_X1_takeOver se_X1_takeOver dX8_live_5 wm_X8_18 jcl_X1.1 rfl g_72 rfl rfl (Nat.le_of_ble_eq_true rfl) (Nat.le_of_ble_eq_true rfl) rfl k1))))
theorem b_X8_live_8 {l : Launch} {z d : Nat} {X : jX} {M : Nat → Int → Int} {Q : Option jV → jM → Prop} {x2 : Int} {x3 : Int}   (k1 : J l z X (d + 4) mX8_live (0, 0) 19 [jR 71, jR 1, jI x2, jI x3, jI x2, jI 0, jN] [] (jG, (jupd M 71 1 0)) Q) : J l z X (d + 4) mX8_live (0, 0) 8 [jR 71, jR 1, jI x2, jI x3, jN, jN, jN] [] (jG, M) Q :=
  (J_aload_n dX8_live_8 rfl (J_iconst dX8_live_9 jc_0 (J_putI (k := 1) (kz := 1) jcl_X8 dX8_live_10 wf_X8_22 g_71 (Nat.le_of_ble_eq_true rfl) rfl rfl rfl (J_iload_n dX8_live_13 rfl (J_istore dX8_live_14 (Nat.le_of_ble_eq_true rfl) (J_iconst dX8_live_16 jc_0 (J_istore dX8_live_17 (Nat.le_of_ble_eq_true rfl) k1)))))))
theorem b_X8_live_19 {l : Launch} {z d : Nat} {X : jX} {M : Nat → Int → Int} {Q : Option jV → jM → Prop} {x2 : Int} {x3 : Int} {x4 : Int} {x5 : Int}  (s1 : x5 < x3 → jIn (75 * x4)) (s2 : x5 < x3 → jIn ((75 * x4) + 74)) (s3 : x5 < x3 → 0 ≤ ((75 * x4) + 74)) (s4 : x5 < x3 → 0 ≤ (((75 * x4) + 74) % 65537)) (s5 : x5 < x3 → 0 ≤ ((((75 * x4) + 74) % 65537) / 6)) (s6 : x5 < x3 → 0 ≤ ((((75 * x4) + 74) % 65537) / 42)) (k1 : x3 ≤ x5 → Q none (jG, M)) (k2 : x5 < x3 → J l z X (d + 3) mX1_act (0, 0) 0 [jR 72, jI (kindF (((((75 * x4) + 74) % 65537) / 6) % 7)), jI ((((75 * x4) + 74) % 65537) % 6), jI (((((75 * x4) + 74) % 65537) / 42) % 6)] [] (jG, M) (fun r μ => J l z X (d + 4) mX8_live (0, 0) 73 [jR 71, jR 1, jI x2, jI x3, jI (((75 * x4) + 74) % 65537), jI x5, jI (kindF (((((75 * x4) + 74) % 65537) / 6) % 7))] (r.toList ++ []) μ Q)) : J l z X (d + 4) mX8_live (0, 0) 19 [jR 71, jR 1, jI x2, jI x3, jI x4, jI x5, jN] [] (jG, M) Q :=
  (J_iload dX8_live_19 rfl (J_iload_n dX8_live_21 rfl (J_icmp_ge dX8_live_22 (tgt := 100) (by decide) (fun c1 => (J_vret dX8_live_100 rfl (k1 c1))) (fun c1 => (J_bipush dX8_live_25 jc_75 jb_75 (J_iload dX8_live_27 rfl (J_imul dX8_live_29 (s1 c1) (J_bipush dX8_live_30 jc_74 jb_74 (J_iadd dX8_live_32 (s2 c1) (J_ldc dX8_live_33 (lw_X8_26) lcl_X8_26 rfl (J_irem dX8_live_35 (s3 c1) (by decide) (J_istore dX8_live_36 (Nat.le_of_ble_eq_true rfl) (J_iload dX8_live_38 rfl (J_bipush dX8_live_40 jc_6 jb_6 (J_idiv dX8_live_42 (s4 c1) (by decide) (J_bipush dX8_live_43 jc_7 jb_7 (J_irem dX8_live_45 (s5 c1) (by decide) (J_callS (a1 := (0, 0)) (a2 := (0, 0)) (mm' := mX8_kindOf) (S := []) [jI (((((75 * x4) + 74) % 65537) / 6) % 7)] md_X8_kindOf is_X8_kindOf dX8_live_46 wm_X8_27 rfl rfl (Nat.le_of_ble_eq_true rfl) (Nat.le_of_ble_eq_true rfl) rfl (c_X8_kindOf   (J_istore dX8_live_49 (Nat.le_of_ble_eq_true rfl) (J_aload_n dX8_live_51 rfl (J_getR (k := 0) jcl_X8 dX8_live_52 wf_X8_12 g_71 (Nat.le_of_ble_eq_true rfl) rfl rfl (J_iload dX8_live_55 rfl (J_iload dX8_live_57 rfl (J_bipush dX8_live_59 jc_6 jb_6 (J_irem dX8_live_61 (s4 c1) (by decide) (J_iload dX8_live_62 rfl (J_bipush dX8_live_64 jc_42 jb_42 (J_idiv dX8_live_66 (s4 c1) (by decide) (J_bipush dX8_live_67 jc_6 jb_6 (J_irem dX8_live_69 (s6 c1) (by decide) (J_callV (a1 := (0, 0)) (a2 := (0, 0)) (mm' := mX1_act) (S := []) [jI (kindF (((((75 * x4) + 74) % 65537) / 6) % 7)), jI ((((75 * x4) + 74) % 65537) % 6), jI (((((75 * x4) + 74) % 65537) / 42) % 6)] md_X1_act im_X1_act se_X1_act dX8_live_70 wm_X8_31 jcl_X1.1 rfl g_72 rfl rfl (Nat.le_of_ble_eq_true rfl) (Nat.le_of_ble_eq_true rfl) rfl (k2 c1)))))))))))))))))))))))))))))))))
theorem b_X8_live_73 {l : Launch} {z d : Nat} {X : jX} {M : Nat → Int → Int} {Q : Option jV → jM → Prop} {x2 : Int} {x3 : Int} {x4 : Int} {x5 : Int} {x6 : Int}   (k1 : x6 ≠ 46 → J l z X (d + 4) mX8_live (0, 0) 90 [jR 71, jR 1, jI x2, jI x3, jI x4, jI x5, jI x6] [jI 0, jI (M 71 1), jR 71] (jG, M) Q) (k2 : x6 = 46 → J l z X (d + 4) mX8_live (0, 0) 90 [jR 71, jR 1, jI x2, jI x3, jI x4, jI x5, jI x6] [jI 1, jI (M 71 1), jR 71] (jG, M) Q) : J l z X (d + 4) mX8_live (0, 0) 73 [jR 71, jR 1, jI x2, jI x3, jI x4, jI x5, jI x6] [] (jG, M) Q :=
  (J_aload_n dX8_live_73 rfl (J_dupR dX8_live_74 (J_getI (k := 1) (kz := 1) jcl_X8 dX8_live_75 wf_X8_22 g_71 (Nat.le_of_ble_eq_true rfl) rfl rfl (J_iload dX8_live_78 rfl (J_bipush dX8_live_80 jc_46 jb_46 (J_icmp_ne dX8_live_82 (tgt := 89) (by decide) (fun c1 => (J_iconst dX8_live_89 jc_0 (k1 c1))) (fun c1 => (J_iconst dX8_live_85 jc_1 (J_goto dX8_live_86 (tgt := 90) (by decide) (k2 c1))))))))))
theorem b_X8_live_90 {l : Launch} {z d : Nat} {X : jX} {M : Nat → Int → Int} {Q : Option jV → jM → Prop} {x2 : Int} {x3 : Int} {x4 : Int} {x5 : Int} {x6 : Int} {t1 : Int} {t2 : Int}  (s1 : jIn (t1 + t2)) (s2 : jIn (x5 + 1)) (k1 : J l z X (d + 4) mX8_live (0, 0) 19 [jR 71, jR 1, jI x2, jI x3, jI x4, jI (x5 + 1), jN] [] (jG, (jupd M 71 1 (t1 + t2))) Q) : J l z X (d + 4) mX8_live (0, 0) 90 [jR 71, jR 1, jI x2, jI x3, jI x4, jI x5, jI x6] [jI t2, jI t1, jR 71] (jG, M) Q :=
  (J_iadd dX8_live_90 s1 (J_putI (k := 1) (kz := 1) jcl_X8 dX8_live_91 wf_X8_22 g_71 (Nat.le_of_ble_eq_true rfl) rfl rfl rfl (J_iinc dX8_live_94 rfl jc_1 s2 (J_goto dX8_live_97 (tgt := 19) (by decide) (J_weak [jR 71, jR 1, jI x2, jI x3, jI x4, jI (x5 + 1), jN] ⟨Or.inr rfl, Or.inr rfl, Or.inr rfl, Or.inr rfl, Or.inr rfl, Or.inr rfl, Or.inl rfl, trivial⟩ k1)))))
