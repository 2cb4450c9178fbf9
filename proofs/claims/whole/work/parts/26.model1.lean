theorem dX10_init_0 : decode cX10_init 0 = .ok (.aload_n 0, 1) := by decide +kernel
theorem dX10_init_1 : decode cX10_init 1 = .ok (.invokespecial 1, 3) := by decide +kernel
theorem dX10_init_4 : decode cX10_init 4 = .ok (.aload_n 0, 1) := by decide +kernel
theorem dX10_init_5 : decode cX10_init 5 = .ok (.bipush 6, 2) := by decide +kernel
theorem dX10_init_7 : decode cX10_init 7 = .ok (.newarray .int, 2) := by decide +kernel
theorem dX10_init_9 : decode cX10_init 9 = .ok (.putfield 7, 3) := by decide +kernel
theorem dX10_init_12 : decode cX10_init 12 = .ok (.aload_n 0, 1) := by decide +kernel
theorem dX10_init_13 : decode cX10_init 13 = .ok (.bipush 6, 2) := by decide +kernel
theorem dX10_init_15 : decode cX10_init 15 = .ok (.newarray .int, 2) := by decide +kernel
theorem dX10_init_17 : decode cX10_init 17 = .ok (.putfield 13, 3) := by decide +kernel
theorem dX10_init_20 : decode cX10_init 20 = .ok (.aload_n 0, 1) := by decide +kernel
theorem dX10_init_21 : decode cX10_init 21 = .ok (.bipush 6, 2) := by decide +kernel
theorem dX10_init_23 : decode cX10_init 23 = .ok (.newarray .int, 2) := by decide +kernel
theorem dX10_init_25 : decode cX10_init 25 = .ok (.putfield 16, 3) := by decide +kernel
theorem dX10_init_28 : decode cX10_init 28 = .ok (.aload_n 0, 1) := by decide +kernel
theorem dX10_init_29 : decode cX10_init 29 = .ok (.bipush 6, 2) := by decide +kernel
theorem dX10_init_31 : decode cX10_init 31 = .ok (.newarray .int, 2) := by decide +kernel
theorem dX10_init_33 : decode cX10_init 33 = .ok (.putfield 19, 3) := by decide +kernel
theorem dX10_init_36 : decode cX10_init 36 = .ok (.aload_n 0, 1) := by decide +kernel
theorem dX10_init_37 : decode cX10_init 37 = .ok (.bipush 8, 2) := by decide +kernel
theorem dX10_init_39 : decode cX10_init 39 = .ok (.newarray .int, 2) := by decide +kernel
theorem dX10_init_41 : decode cX10_init 41 = .ok (.putfield 22, 3) := by decide +kernel
theorem dX10_init_44 : decode cX10_init 44 = .ok (.aload_n 0, 1) := by decide +kernel
theorem dX10_init_45 : decode cX10_init 45 = .ok (.bipush 8, 2) := by decide +kernel
theorem dX10_init_47 : decode cX10_init 47 = .ok (.newarray .int, 2) := by decide +kernel
theorem dX10_init_49 : decode cX10_init 49 = .ok (.putfield 25, 3) := by decide +kernel
theorem dX10_init_52 : decode cX10_init 52 = .ok (.aload_n 0, 1) := by decide +kernel
theorem dX10_init_53 : decode cX10_init 53 = .ok (.bipush 60, 2) := by decide +kernel
theorem dX10_init_55 : decode cX10_init 55 = .ok (.newarray .int, 2) := by decide +kernel
theorem dX10_init_57 : decode cX10_init 57 = .ok (.putfield 28, 3) := by decide +kernel
theorem dX10_init_60 : decode cX10_init 60 = .ok (.aload_n 0, 1) := by decide +kernel
theorem dX10_init_61 : decode cX10_init 61 = .ok (.bipush 60, 2) := by decide +kernel
theorem dX10_init_63 : decode cX10_init 63 = .ok (.newarray .int, 2) := by decide +kernel
theorem dX10_init_65 : decode cX10_init 65 = .ok (.putfield 31, 3) := by decide +kernel
theorem dX10_init_68 : decode cX10_init 68 = .ok (.aload_n 0, 1) := by decide +kernel
theorem dX10_init_69 : decode cX10_init 69 = .ok (.bipush 60, 2) := by decide +kernel
theorem dX10_init_71 : decode cX10_init 71 = .ok (.newarray .int, 2) := by decide +kernel
theorem dX10_init_73 : decode cX10_init 73 = .ok (.putfield 34, 3) := by decide +kernel
theorem dX10_init_76 : decode cX10_init 76 = .ok (.aload_n 0, 1) := by decide +kernel
theorem dX10_init_77 : decode cX10_init 77 = .ok (.bipush 60, 2) := by decide +kernel
theorem dX10_init_79 : decode cX10_init 79 = .ok (.newarray .int, 2) := by decide +kernel
theorem dX10_init_81 : decode cX10_init 81 = .ok (.putfield 37, 3) := by decide +kernel
theorem dX10_init_84 : decode cX10_init 84 = .ok (.aload_n 0, 1) := by decide +kernel
theorem dX10_init_85 : decode cX10_init 85 = .ok (.bipush 100, 2) := by decide +kernel
theorem dX10_init_87 : decode cX10_init 87 = .ok (.newarray .int, 2) := by decide +kernel
theorem dX10_init_89 : decode cX10_init 89 = .ok (.putfield 40, 3) := by decide +kernel
theorem dX10_init_92 : decode cX10_init 92 = .ok (.aload_n 0, 1) := by decide +kernel
theorem dX10_init_93 : decode cX10_init 93 = .ok (.bipush 6, 2) := by decide +kernel
theorem dX10_init_95 : decode cX10_init 95 = .ok (.newarray .int, 2) := by decide +kernel
theorem dX10_init_97 : decode cX10_init 97 = .ok (.putfield 43, 3) := by decide +kernel
theorem dX10_init_100 : decode cX10_init 100 = .ok (.aload_n 0, 1) := by decide +kernel
theorem dX10_init_101 : decode cX10_init 101 = .ok (.bipush 15, 2) := by decide +kernel
theorem dX10_init_103 : decode cX10_init 103 = .ok (.newarray .int, 2) := by decide +kernel
theorem dX10_init_105 : decode cX10_init 105 = .ok (.putfield 46, 3) := by decide +kernel
theorem dX10_init_108 : decode cX10_init 108 = .ok (.aload_n 0, 1) := by decide +kernel
theorem dX10_init_109 : decode cX10_init 109 = .ok (.iconst 3, 1) := by decide +kernel
theorem dX10_init_110 : decode cX10_init 110 = .ok (.newarray .int, 2) := by decide +kernel
theorem dX10_init_112 : decode cX10_init 112 = .ok (.putfield 49, 3) := by decide +kernel
theorem dX10_init_115 : decode cX10_init 115 = .ok (.aload_n 0, 1) := by decide +kernel
theorem dX10_init_116 : decode cX10_init 116 = .ok (.bipush 78, 2) := by decide +kernel
theorem dX10_init_118 : decode cX10_init 118 = .ok (.newarray .int, 2) := by decide +kernel
theorem dX10_init_120 : decode cX10_init 120 = .ok (.putfield 52, 3) := by decide +kernel
theorem dX10_init_123 : decode cX10_init 123 = .ok (.aload_n 0, 1) := by decide +kernel
theorem dX10_init_124 : decode cX10_init 124 = .ok (.iconst 3, 1) := by decide +kernel
theorem dX10_init_125 : decode cX10_init 125 = .ok (.newarray .int, 2) := by decide +kernel
theorem dX10_init_127 : decode cX10_init 127 = .ok (.putfield 55, 3) := by decide +kernel
theorem dX10_init_130 : decode cX10_init 130 = .ok (.aload_n 0, 1) := by decide +kernel
theorem dX10_init_131 : decode cX10_init 131 = .ok (.sipush 234, 3) := by decide +kernel
theorem dX10_init_134 : decode cX10_init 134 = .ok (.newarray .int, 2) := by decide +kernel
theorem dX10_init_136 : decode cX10_init 136 = .ok (.putfield 58, 3) := by decide +kernel
theorem dX10_init_139 : decode cX10_init 139 = .ok (.aload_n 0, 1) := by decide +kernel
theorem dX10_init_140 : decode cX10_init 140 = .ok (.ldc 61, 2) := by decide +kernel
theorem dX10_init_142 : decode cX10_init 142 = .ok (.newarray .int, 2) := by decide +kernel
theorem dX10_init_144 : decode cX10_init 144 = .ok (.putfield 62, 3) := by decide +kernel
theorem dX10_init_147 : decode cX10_init 147 = .ok (.aload_n 0, 1) := by decide +kernel
theorem dX10_init_148 : decode cX10_init 148 = .ok (.iconst 3, 1) := by decide +kernel
theorem dX10_init_149 : decode cX10_init 149 = .ok (.newarray .int, 2) := by decide +kernel
theorem dX10_init_151 : decode cX10_init 151 = .ok (.putfield 65, 3) := by decide +kernel
theorem dX10_init_154 : decode cX10_init 154 = .ok (.aload_n 0, 1) := by decide +kernel
theorem dX10_init_155 : decode cX10_init 155 = .ok (.bipush 6, 2) := by decide +kernel
theorem dX10_init_157 : decode cX10_init 157 = .ok (.newarray .int, 2) := by decide +kernel
theorem dX10_init_159 : decode cX10_init 159 = .ok (.putfield 68, 3) := by decide +kernel
theorem dX10_init_162 : decode cX10_init 162 = .ok (.aload_n 0, 1) := by decide +kernel
theorem dX10_init_163 : decode cX10_init 163 = .ok (.bipush 100, 2) := by decide +kernel
theorem dX10_init_165 : decode cX10_init 165 = .ok (.newarray .long, 2) := by decide +kernel
theorem dX10_init_167 : decode cX10_init 167 = .ok (.putfield 71, 3) := by decide +kernel
theorem dX10_init_170 : decode cX10_init 170 = .ok (.aload_n 0, 1) := by decide +kernel
theorem dX10_init_171 : decode cX10_init 171 = .ok (.bipush 100, 2) := by decide +kernel
theorem dX10_init_173 : decode cX10_init 173 = .ok (.newarray .long, 2) := by decide +kernel
theorem dX10_init_175 : decode cX10_init 175 = .ok (.putfield 75, 3) := by decide +kernel
theorem dX10_init_178 : decode cX10_init 178 = .ok (.aload_n 0, 1) := by decide +kernel
theorem dX10_init_179 : decode cX10_init 179 = .ok (.bipush 120, 2) := by decide +kernel
theorem dX10_init_181 : decode cX10_init 181 = .ok (.newarray .int, 2) := by decide +kernel
theorem dX10_init_183 : decode cX10_init 183 = .ok (.putfield 78, 3) := by decide +kernel
theorem dX10_init_186 : decode cX10_init 186 = .ok (.aload_n 0, 1) := by decide +kernel
theorem dX10_init_187 : decode cX10_init 187 = .ok (.iconst 2, 1) := by decide +kernel
theorem dX10_init_188 : decode cX10_init 188 = .ok (.newarray .boolean, 2) := by decide +kernel
theorem dX10_init_190 : decode cX10_init 190 = .ok (.putfield 81, 3) := by decide +kernel
theorem dX10_init_193 : decode cX10_init 193 = .ok (.aload_n 0, 1) := by decide +kernel
theorem dX10_init_194 : decode cX10_init 194 = .ok (.bipush 12, 2) := by decide +kernel
theorem dX10_init_196 : decode cX10_init 196 = .ok (.putfield 85, 3) := by decide +kernel
theorem dX10_init_199 : decode cX10_init 199 = .ok (.aload_n 0, 1) := by decide +kernel
theorem dX10_init_200 : decode cX10_init 200 = .ok (.iconst 1, 1) := by decide +kernel
theorem dX10_init_201 : decode cX10_init 201 = .ok (.putfield 89, 3) := by decide +kernel
theorem dX10_init_204 : decode cX10_init 204 = .ok (.return_, 1) := by decide +kernel
theorem dX10_one_0 : decode cX10_one 0 = .ok (.iload_n 1, 1) := by decide +kernel
theorem dX10_one_1 : decode cX10_one 1 = .ok (.i2l, 1) := by decide +kernel
theorem dX10_one_2 : decode cX10_one 2 = .ok (.lconst 0, 1) := by decide +kernel
theorem dX10_one_3 : decode cX10_one 3 = .ok (.ldc2_w 92, 3) := by decide +kernel
theorem dX10_one_6 : decode cX10_one 6 = .ok (.invokestatic 94, 3) := by decide +kernel
theorem dX10_one_9 : decode cX10_one 9 = .ok (.ifCond .ne 5, 3) := by decide +kernel
theorem dX10_one_12 : decode cX10_one 12 = .ok (.iconst (-1), 1) := by decide +kernel
theorem dX10_one_13 : decode cX10_one 13 = .ok (.ireturn, 1) := by decide +kernel
theorem dX10_one_14 : decode cX10_one 14 = .ok (.iload_n 2, 1) := by decide +kernel
theorem dX10_one_15 : decode cX10_one 15 = .ok (.i2l, 1) := by decide +kernel
theorem dX10_one_16 : decode cX10_one 16 = .ok (.lconst 0, 1) := by decide +kernel
theorem dX10_one_17 : decode cX10_one 17 = .ok (.ldc2_w 101, 3) := by decide +kernel
theorem dX10_one_20 : decode cX10_one 20 = .ok (.invokestatic 94, 3) := by decide +kernel
theorem dX10_one_23 : decode cX10_one 23 = .ok (.ifCond .eq 27, 3) := by decide +kernel
theorem dX10_one_26 : decode cX10_one 26 = .ok (.iload_n 3, 1) := by decide +kernel
theorem dX10_one_27 : decode cX10_one 27 = .ok (.i2l, 1) := by decide +kernel
theorem dX10_one_28 : decode cX10_one 28 = .ok (.lconst 1, 1) := by decide +kernel
theorem dX10_one_29 : decode cX10_one 29 = .ok (.ldc2_w 103, 3) := by decide +kernel
theorem dX10_one_32 : decode cX10_one 32 = .ok (.invokestatic 94, 3) := by decide +kernel
theorem dX10_one_35 : decode cX10_one 35 = .ok (.ifCond .eq 15, 3) := by decide +kernel
theorem dX10_one_38 : decode cX10_one 38 = .ok (.iload 4, 2) := by decide +kernel
theorem dX10_one_40 : decode cX10_one 40 = .ok (.i2l, 1) := by decide +kernel
theorem dX10_one_41 : decode cX10_one 41 = .ok (.lconst 0, 1) := by decide +kernel
theorem dX10_one_42 : decode cX10_one 42 = .ok (.iload_n 2, 1) := by decide +kernel
theorem dX10_one_43 : decode cX10_one 43 = .ok (.i2l, 1) := by decide +kernel
theorem dX10_one_44 : decode cX10_one 44 = .ok (.invokestatic 94, 3) := by decide +kernel
theorem dX10_one_47 : decode cX10_one 47 = .ok (.ifCond .ne 6, 3) := by decide +kernel
theorem dX10_one_50 : decode cX10_one 50 = .ok (.bipush (-2), 2) := by decide +kernel
theorem dX10_one_52 : decode cX10_one 52 = .ok (.ireturn, 1) := by decide +kernel
theorem dX10_one_53 : decode cX10_one 53 = .ok (.aload_n 0, 1) := by decide +kernel
theorem dX10_one_54 : decode cX10_one 54 = .ok (.dup, 1) := by decide +kernel
theorem dX10_one_55 : decode cX10_one 55 = .ok (.getfield 98, 3) := by decide +kernel
theorem dX10_one_58 : decode cX10_one 58 = .ok (.iconst 1, 1) := by decide +kernel
theorem dX10_one_59 : decode cX10_one 59 = .ok (.iload_n 1, 1) := by decide +kernel
theorem dX10_one_60 : decode cX10_one 60 = .ok (.ishl, 1) := by decide +kernel
theorem dX10_one_61 : decode cX10_one 61 = .ok (.ior, 1) := by decide +kernel
theorem dX10_one_62 : decode cX10_one 62 = .ok (.putfield 98, 3) := by decide +kernel
theorem dX10_one_65 : decode cX10_one 65 = .ok (.aload_n 0, 1) := by decide +kernel
theorem dX10_one_66 : decode cX10_one 66 = .ok (.getfield 7, 3) := by decide +kernel
theorem dX10_one_69 : decode cX10_one 69 = .ok (.iload_n 1, 1) := by decide +kernel
theorem dX10_one_70 : decode cX10_one 70 = .ok (.iload_n 2, 1) := by decide +kernel
theorem dX10_one_71 : decode cX10_one 71 = .ok (.iastore, 1) := by decide +kernel
theorem dX10_one_72 : decode cX10_one 72 = .ok (.aload_n 0, 1) := by decide +kernel
theorem dX10_one_73 : decode cX10_one 73 = .ok (.getfield 13, 3) := by decide +kernel
theorem dX10_one_76 : decode cX10_one 76 = .ok (.iload_n 1, 1) := by decide +kernel
theorem dX10_one_77 : decode cX10_one 77 = .ok (.iload_n 3, 1) := by decide +kernel
theorem dX10_one_78 : decode cX10_one 78 = .ok (.iastore, 1) := by decide +kernel
theorem dX10_one_79 : decode cX10_one 79 = .ok (.aload_n 0, 1) := by decide +kernel
theorem dX10_one_80 : decode cX10_one 80 = .ok (.getfield 16, 3) := by decide +kernel
theorem dX10_one_83 : decode cX10_one 83 = .ok (.iload_n 1, 1) := by decide +kernel
theorem dX10_one_84 : decode cX10_one 84 = .ok (.iload 4, 2) := by decide +kernel
theorem dX10_one_86 : decode cX10_one 86 = .ok (.iastore, 1) := by decide +kernel
theorem dX10_one_87 : decode cX10_one 87 = .ok (.aload_n 0, 1) := by decide +kernel
theorem dX10_one_88 : decode cX10_one 88 = .ok (.getfield 19, 3) := by decide +kernel
theorem dX10_one_91 : decode cX10_one 91 = .ok (.iload_n 1, 1) := by decide +kernel
theorem dX10_one_92 : decode cX10_one 92 = .ok (.iconst 0, 1) := by decide +kernel
theorem dX10_one_93 : decode cX10_one 93 = .ok (.iastore, 1) := by decide +kernel
theorem dX10_one_94 : decode cX10_one 94 = .ok (.aload_n 0, 1) := by decide +kernel
theorem dX10_one_95 : decode cX10_one 95 = .ok (.getfield 98, 3) := by decide +kernel
theorem dX10_one_98 : decode cX10_one 98 = .ok (.invokestatic 105, 3) := by decide +kernel
theorem dX10_one_101 : decode cX10_one 101 = .ok (.ireturn, 1) := by decide +kernel
theorem dX10_leave_0 : decode cX10_leave 0 = .ok (.aload_n 0, 1) := by decide +kernel
theorem dX10_leave_1 : decode cX10_leave 1 = .ok (.iload_n 1, 1) := by decide +kernel
theorem dX10_leave_2 : decode cX10_leave 2 = .ok (.invokevirtual 109, 3) := by decide +kernel
theorem dX10_leave_5 : decode cX10_leave 5 = .ok (.ifCond .ne 5, 3) := by decide +kernel
theorem dX10_leave_8 : decode cX10_leave 8 = .ok (.iconst (-1), 1) := by decide +kernel
theorem dX10_leave_9 : decode cX10_leave 9 = .ok (.ireturn, 1) := by decide +kernel
theorem dX10_leave_10 : decode cX10_leave 10 = .ok (.aload_n 0, 1) := by decide +kernel
theorem dX10_leave_11 : decode cX10_leave 11 = .ok (.dup, 1) := by decide +kernel
theorem dX10_leave_12 : decode cX10_leave 12 = .ok (.getfield 98, 3) := by decide +kernel
theorem dX10_leave_15 : decode cX10_leave 15 = .ok (.iconst 1, 1) := by decide +kernel
theorem dX10_leave_16 : decode cX10_leave 16 = .ok (.iload_n 1, 1) := by decide +kernel
theorem dX10_leave_17 : decode cX10_leave 17 = .ok (.ishl, 1) := by decide +kernel
theorem dX10_leave_18 : decode cX10_leave 18 = .ok (.iconst (-1), 1) := by decide +kernel
theorem dX10_leave_19 : decode cX10_leave 19 = .ok (.ixor, 1) := by decide +kernel
theorem dX10_leave_20 : decode cX10_leave 20 = .ok (.iand, 1) := by decide +kernel
theorem dX10_leave_21 : decode cX10_leave 21 = .ok (.putfield 98, 3) := by decide +kernel
theorem dX10_leave_24 : decode cX10_leave 24 = .ok (.aload_n 0, 1) := by decide +kernel
theorem dX10_leave_25 : decode cX10_leave 25 = .ok (.getfield 98, 3) := by decide +kernel
theorem dX10_leave_28 : decode cX10_leave 28 = .ok (.invokestatic 105, 3) := by decide +kernel
theorem dX10_leave_31 : decode cX10_leave 31 = .ok (.ireturn, 1) := by decide +kernel
theorem dX10_set_0 : decode cX10_set 0 = .ok (.iload_n 1, 1) := by decide +kernel
theorem dX10_set_1 : decode cX10_set 1 = .ok (.i2l, 1) := by decide +kernel
theorem dX10_set_2 : decode cX10_set 2 = .ok (.lconst 0, 1) := by decide +kernel
theorem dX10_set_3 : decode cX10_set 3 = .ok (.ldc2_w 113, 3) := by decide +kernel
theorem dX10_set_6 : decode cX10_set 6 = .ok (.invokestatic 94, 3) := by decide +kernel
theorem dX10_set_9 : decode cX10_set 9 = .ok (.ifCond .eq 34, 3) := by decide +kernel
theorem dX10_set_12 : decode cX10_set 12 = .ok (.iload_n 2, 1) := by decide +kernel
theorem dX10_set_13 : decode cX10_set 13 = .ok (.i2l, 1) := by decide +kernel
theorem dX10_set_14 : decode cX10_set 14 = .ok (.lconst 0, 1) := by decide +kernel
theorem dX10_set_15 : decode cX10_set 15 = .ok (.iload_n 1, 1) := by decide +kernel
theorem dX10_set_16 : decode cX10_set 16 = .ok (.ifCond .ne 9, 3) := by decide +kernel
theorem dX10_set_19 : decode cX10_set 19 = .ok (.ldc2_w 101, 3) := by decide +kernel
theorem dX10_set_22 : decode cX10_set 22 = .ok (.goto 15, 3) := by decide +kernel
theorem dX10_set_25 : decode cX10_set 25 = .ok (.iload_n 1, 1) := by decide +kernel
theorem dX10_set_26 : decode cX10_set 26 = .ok (.iconst 1, 1) := by decide +kernel
theorem dX10_set_27 : decode cX10_set 27 = .ok (.if_icmp .ne 9, 3) := by decide +kernel
theorem dX10_set_30 : decode cX10_set 30 = .ok (.ldc2_w 115, 3) := by decide +kernel
theorem dX10_set_33 : decode cX10_set 33 = .ok (.goto 4, 3) := by decide +kernel
theorem dX10_set_36 : decode cX10_set 36 = .ok (.lconst 1, 1) := by decide +kernel
theorem dX10_set_37 : decode cX10_set 37 = .ok (.invokestatic 94, 3) := by decide +kernel
theorem dX10_set_40 : decode cX10_set 40 = .ok (.ifCond .ne 6, 3) := by decide +kernel
theorem dX10_set_43 : decode cX10_set 43 = .ok (.bipush (-2), 2) := by decide +kernel
theorem dX10_set_45 : decode cX10_set 45 = .ok (.ireturn, 1) := by decide +kernel
theorem dX10_set_46 : decode cX10_set 46 = .ok (.iload_n 1, 1) := by decide +kernel
theorem dX10_set_47 : decode cX10_set 47 = .ok (.ifCond .ne 10, 3) := by decide +kernel
theorem dX10_set_50 : decode cX10_set 50 = .ok (.aload_n 0, 1) := by decide +kernel
theorem dX10_set_51 : decode cX10_set 51 = .ok (.getfield 117, 3) := by decide +kernel
theorem dX10_set_54 : decode cX10_set 54 = .ok (.goto 19, 3) := by decide +kernel
theorem dX10_set_57 : decode cX10_set 57 = .ok (.iload_n 1, 1) := by decide +kernel
theorem dX10_set_58 : decode cX10_set 58 = .ok (.iconst 1, 1) := by decide +kernel
theorem dX10_set_59 : decode cX10_set 59 = .ok (.if_icmp .ne 10, 3) := by decide +kernel
theorem dX10_set_62 : decode cX10_set 62 = .ok (.aload_n 0, 1) := by decide +kernel
theorem dX10_set_63 : decode cX10_set 63 = .ok (.getfield 85, 3) := by decide +kernel
theorem dX10_set_66 : decode cX10_set 66 = .ok (.goto 7, 3) := by decide +kernel
theorem dX10_set_69 : decode cX10_set 69 = .ok (.aload_n 0, 1) := by decide +kernel
theorem dX10_set_70 : decode cX10_set 70 = .ok (.getfield 89, 3) := by decide +kernel
theorem dX10_set_73 : decode cX10_set 73 = .ok (.istore_n 3, 1) := by decide +kernel
theorem dX10_set_74 : decode cX10_set 74 = .ok (.aload_n 0, 1) := by decide +kernel
theorem dX10_set_75 : decode cX10_set 75 = .ok (.iload_n 1, 1) := by decide +kernel
theorem dX10_set_76 : decode cX10_set 76 = .ok (.ifCond .ne 7, 3) := by decide +kernel
theorem dX10_set_79 : decode cX10_set 79 = .ok (.iload_n 2, 1) := by decide +kernel
theorem dX10_set_80 : decode cX10_set 80 = .ok (.goto 7, 3) := by decide +kernel
theorem dX10_set_83 : decode cX10_set 83 = .ok (.aload_n 0, 1) := by decide +kernel
theorem dX10_set_84 : decode cX10_set 84 = .ok (.getfield 117, 3) := by decide +kernel
theorem dX10_set_87 : decode cX10_set 87 = .ok (.putfield 117, 3) := by decide +kernel
theorem dX10_set_90 : decode cX10_set 90 = .ok (.aload_n 0, 1) := by decide +kernel
theorem dX10_set_91 : decode cX10_set 91 = .ok (.iload_n 1, 1) := by decide +kernel
theorem dX10_set_92 : decode cX10_set 92 = .ok (.iconst 1, 1) := by decide +kernel
theorem dX10_set_93 : decode cX10_set 93 = .ok (.if_icmp .ne 7, 3) := by decide +kernel
theorem dX10_set_96 : decode cX10_set 96 = .ok (.iload_n 2, 1) := by decide +kernel
theorem dX10_set_97 : decode cX10_set 97 = .ok (.goto 7, 3) := by decide +kernel
theorem dX10_set_100 : decode cX10_set 100 = .ok (.aload_n 0, 1) := by decide +kernel
theorem dX10_set_101 : decode cX10_set 101 = .ok (.getfield 85, 3) := by decide +kernel
theorem dX10_set_104 : decode cX10_set 104 = .ok (.putfield 85, 3) := by decide +kernel
theorem dX10_set_107 : decode cX10_set 107 = .ok (.aload_n 0, 1) := by decide +kernel
theorem dX10_set_108 : decode cX10_set 108 = .ok (.iload_n 1, 1) := by decide +kernel
theorem dX10_set_109 : decode cX10_set 109 = .ok (.iconst 2, 1) := by decide +kernel
theorem dX10_set_110 : decode cX10_set 110 = .ok (.if_icmp .ne 7, 3) := by decide +kernel
theorem dX10_set_113 : decode cX10_set 113 = .ok (.iload_n 2, 1) := by decide +kernel
theorem dX10_set_114 : decode cX10_set 114 = .ok (.goto 7, 3) := by decide +kernel
theorem dX10_set_117 : decode cX10_set 117 = .ok (.aload_n 0, 1) := by decide +kernel
theorem dX10_set_118 : decode cX10_set 118 = .ok (.getfield 89, 3) := by decide +kernel
theorem dX10_set_121 : decode cX10_set 121 = .ok (.putfield 89, 3) := by decide +kernel
theorem dX10_set_124 : decode cX10_set 124 = .ok (.iload_n 3, 1) := by decide +kernel
theorem dX10_set_125 : decode cX10_set 125 = .ok (.ireturn, 1) := by decide +kernel
theorem dX10_say_0 : decode cX10_say 0 = .ok (.iload_n 1, 1) := by decide +kernel
theorem dX10_say_1 : decode cX10_say 1 = .ok (.i2l, 1) := by decide +kernel
theorem dX10_say_2 : decode cX10_say 2 = .ok (.ldc2_w 120, 3) := by decide +kernel
theorem dX10_say_5 : decode cX10_say 5 = .ok (.ldc2_w 122, 3) := by decide +kernel
theorem dX10_say_8 : decode cX10_say 8 = .ok (.invokestatic 94, 3) := by decide +kernel
theorem dX10_say_11 : decode cX10_say 11 = .ok (.ifCond .ne 6, 3) := by decide +kernel
theorem dX10_say_14 : decode cX10_say 14 = .ok (.bipush (-2), 2) := by decide +kernel
theorem dX10_say_16 : decode cX10_say 16 = .ok (.ireturn, 1) := by decide +kernel
theorem dX10_say_17 : decode cX10_say 17 = .ok (.aload_n 0, 1) := by decide +kernel
theorem dX10_say_18 : decode cX10_say 18 = .ok (.getfield 124, 3) := by decide +kernel
theorem dX10_say_21 : decode cX10_say 21 = .ok (.bipush 60, 2) := by decide +kernel
theorem dX10_say_23 : decode cX10_say 23 = .ok (.if_icmp .ne 6, 3) := by decide +kernel
theorem dX10_say_26 : decode cX10_say 26 = .ok (.bipush (-4), 2) := by decide +kernel
theorem dX10_say_28 : decode cX10_say 28 = .ok (.ireturn, 1) := by decide +kernel
theorem dX10_say_29 : decode cX10_say 29 = .ok (.aload_n 0, 1) := by decide +kernel
theorem dX10_say_30 : decode cX10_say 30 = .ok (.getfield 28, 3) := by decide +kernel
theorem dX10_say_33 : decode cX10_say 33 = .ok (.aload_n 0, 1) := by decide +kernel
theorem dX10_say_34 : decode cX10_say 34 = .ok (.getfield 124, 3) := by decide +kernel
theorem dX10_say_37 : decode cX10_say 37 = .ok (.iload_n 1, 1) := by decide +kernel
theorem dX10_say_38 : decode cX10_say 38 = .ok (.iastore, 1) := by decide +kernel
theorem dX10_say_39 : decode cX10_say 39 = .ok (.aload_n 0, 1) := by decide +kernel
theorem dX10_say_40 : decode cX10_say 40 = .ok (.dup, 1) := by decide +kernel
theorem dX10_say_41 : decode cX10_say 41 = .ok (.getfield 124, 3) := by decide +kernel
theorem dX10_say_44 : decode cX10_say 44 = .ok (.iconst 1, 1) := by decide +kernel
theorem dX10_say_45 : decode cX10_say 45 = .ok (.iadd, 1) := by decide +kernel
theorem dX10_say_46 : decode cX10_say 46 = .ok (.putfield 124, 3) := by decide +kernel
theorem dX10_say_49 : decode cX10_say 49 = .ok (.aload_n 0, 1) := by decide +kernel
theorem dX10_say_50 : decode cX10_say 50 = .ok (.getfield 124, 3) := by decide +kernel
theorem dX10_say_53 : decode cX10_say 53 = .ok (.ireturn, 1) := by decide +kernel
theorem dX10_wipe_0 : decode cX10_wipe 0 = .ok (.aload_n 0, 1) := by decide +kernel
theorem dX10_wipe_1 : decode cX10_wipe 1 = .ok (.getfield 124, 3) := by decide +kernel
theorem dX10_wipe_4 : decode cX10_wipe 4 = .ok (.istore_n 1, 1) := by decide +kernel
theorem dX10_wipe_5 : decode cX10_wipe 5 = .ok (.aload_n 0, 1) := by decide +kernel
theorem dX10_wipe_6 : decode cX10_wipe 6 = .ok (.iconst 0, 1) := by decide +kernel
theorem dX10_wipe_7 : decode cX10_wipe 7 = .ok (.putfield 124, 3) := by decide +kernel
theorem dX10_wipe_10 : decode cX10_wipe 10 = .ok (.iload_n 1, 1) := by decide +kernel
theorem dX10_wipe_11 : decode cX10_wipe 11 = .ok (.ireturn, 1) := by decide +kernel
theorem dX10_close_0 : decode cX10_close 0 = .ok (.aload_n 0, 1) := by decide +kernel
theorem dX10_close_1 : decode cX10_close 1 = .ok (.getfield 31, 3) := by decide +kernel
theorem dX10_close_4 : decode cX10_close 4 = .ok (.aload_n 0, 1) := by decide +kernel
theorem dX10_close_5 : decode cX10_close 5 = .ok (.getfield 131, 3) := by decide +kernel
theorem dX10_close_8 : decode cX10_close 8 = .ok (.iload_n 1, 1) := by decide +kernel
theorem dX10_close_9 : decode cX10_close 9 = .ok (.iastore, 1) := by decide +kernel
theorem dX10_close_10 : decode cX10_close 10 = .ok (.aload_n 0, 1) := by decide +kernel
theorem dX10_close_11 : decode cX10_close 11 = .ok (.getfield 37, 3) := by decide +kernel
theorem dX10_close_14 : decode cX10_close 14 = .ok (.aload_n 0, 1) := by decide +kernel
theorem dX10_close_15 : decode cX10_close 15 = .ok (.getfield 131, 3) := by decide +kernel
theorem dX10_close_18 : decode cX10_close 18 = .ok (.iload_n 2, 1) := by decide +kernel
theorem dX10_close_19 : decode cX10_close 19 = .ok (.iastore, 1) := by decide +kernel
theorem dX10_close_20 : decode cX10_close 20 = .ok (.aload_n 0, 1) := by decide +kernel
theorem dX10_close_21 : decode cX10_close 21 = .ok (.dup, 1) := by decide +kernel
theorem dX10_close_22 : decode cX10_close 22 = .ok (.getfield 131, 3) := by decide +kernel
theorem dX10_close_25 : decode cX10_close 25 = .ok (.iconst 1, 1) := by decide +kernel
theorem dX10_close_26 : decode cX10_close 26 = .ok (.iadd, 1) := by decide +kernel
theorem dX10_close_27 : decode cX10_close 27 = .ok (.putfield 131, 3) := by decide +kernel
theorem dX10_close_30 : decode cX10_close 30 = .ok (.iconst 0, 1) := by decide +kernel
theorem dX10_close_31 : decode cX10_close 31 = .ok (.ireturn, 1) := by decide +kernel
theorem dX10_readOn_0 : decode cX10_readOn 0 = .ok (.iload_n 1, 1) := by decide +kernel
theorem dX10_readOn_1 : decode cX10_readOn 1 = .ok (.ifCond .ne 71, 3) := by decide +kernel
theorem dX10_readOn_4 : decode cX10_readOn 4 = .ok (.aload_n 0, 1) := by decide +kernel
theorem dX10_readOn_5 : decode cX10_readOn 5 = .ok (.getfield 34, 3) := by decide +kernel
theorem dX10_readOn_8 : decode cX10_readOn 8 = .ok (.aload_n 0, 1) := by decide +kernel
theorem dX10_readOn_9 : decode cX10_readOn 9 = .ok (.getfield 131, 3) := by decide +kernel
theorem dX10_readOn_12 : decode cX10_readOn 12 = .ok (.iload_n 2, 1) := by decide +kernel
theorem dX10_readOn_13 : decode cX10_readOn 13 = .ok (.invokestatic 134, 3) := by decide +kernel
theorem dX10_readOn_16 : decode cX10_readOn 16 = .ok (.ifCond .eq 10, 3) := by decide +kernel
theorem dX10_readOn_19 : decode cX10_readOn 19 = .ok (.iload_n 2, 1) := by decide +kernel
theorem dX10_readOn_20 : decode cX10_readOn 20 = .ok (.bipush 65, 2) := by decide +kernel
theorem dX10_readOn_22 : decode cX10_readOn 22 = .ok (.isub, 1) := by decide +kernel
theorem dX10_readOn_23 : decode cX10_readOn 23 = .ok (.goto 4, 3) := by decide +kernel
theorem dX10_readOn_26 : decode cX10_readOn 26 = .ok (.iconst 0, 1) := by decide +kernel
theorem dX10_readOn_27 : decode cX10_readOn 27 = .ok (.iastore, 1) := by decide +kernel
theorem dX10_readOn_28 : decode cX10_readOn 28 = .ok (.iload_n 2, 1) := by decide +kernel
theorem dX10_readOn_29 : decode cX10_readOn 29 = .ok (.invokestatic 134, 3) := by decide +kernel
theorem dX10_readOn_32 : decode cX10_readOn 32 = .ok (.ifCond .eq 7, 3) := by decide +kernel
theorem dX10_readOn_35 : decode cX10_readOn 35 = .ok (.iconst 1, 1) := by decide +kernel
theorem dX10_readOn_36 : decode cX10_readOn 36 = .ok (.goto 35, 3) := by decide +kernel
theorem dX10_readOn_39 : decode cX10_readOn 39 = .ok (.iload_n 2, 1) := by decide +kernel
theorem dX10_readOn_40 : decode cX10_readOn 40 = .ok (.bipush 33, 2) := by decide +kernel
theorem dX10_readOn_42 : decode cX10_readOn 42 = .ok (.if_icmp .ne 12, 3) := by decide +kernel
theorem dX10_readOn_45 : decode cX10_readOn 45 = .ok (.aload_n 0, 1) := by decide +kernel
theorem dX10_readOn_46 : decode cX10_readOn 46 = .ok (.iconst 4, 1) := by decide +kernel
theorem dX10_readOn_47 : decode cX10_readOn 47 = .ok (.iconst 0, 1) := by decide +kernel
theorem dX10_readOn_48 : decode cX10_readOn 48 = .ok (.invokevirtual 137, 3) := by decide +kernel
theorem dX10_readOn_51 : decode cX10_readOn 51 = .ok (.goto 20, 3) := by decide +kernel
theorem dX10_readOn_54 : decode cX10_readOn 54 = .ok (.iload_n 2, 1) := by decide +kernel
theorem dX10_readOn_55 : decode cX10_readOn 55 = .ok (.bipush 46, 2) := by decide +kernel
theorem dX10_readOn_57 : decode cX10_readOn 57 = .ok (.if_icmp .ne 12, 3) := by decide +kernel
theorem dX10_readOn_60 : decode cX10_readOn 60 = .ok (.aload_n 0, 1) := by decide +kernel
theorem dX10_readOn_61 : decode cX10_readOn 61 = .ok (.iconst 5, 1) := by decide +kernel
theorem dX10_readOn_62 : decode cX10_readOn 62 = .ok (.iconst 0, 1) := by decide +kernel
theorem dX10_readOn_63 : decode cX10_readOn 63 = .ok (.invokevirtual 137, 3) := by decide +kernel
theorem dX10_readOn_66 : decode cX10_readOn 66 = .ok (.goto 5, 3) := by decide +kernel
theorem dX10_readOn_69 : decode cX10_readOn 69 = .ok (.bipush (-6), 2) := by decide +kernel
theorem dX10_readOn_71 : decode cX10_readOn 71 = .ok (.ireturn, 1) := by decide +kernel
theorem dX10_readOn_72 : decode cX10_readOn 72 = .ok (.iload_n 1, 1) := by decide +kernel
theorem dX10_readOn_73 : decode cX10_readOn 73 = .ok (.iconst 2, 1) := by decide +kernel
theorem dX10_readOn_74 : decode cX10_readOn 74 = .ok (.if_icmp .ne 25, 3) := by decide +kernel
theorem dX10_readOn_77 : decode cX10_readOn 77 = .ok (.iload_n 2, 1) := by decide +kernel
theorem dX10_readOn_78 : decode cX10_readOn 78 = .ok (.invokestatic 134, 3) := by decide +kernel
theorem dX10_readOn_81 : decode cX10_readOn 81 = .ok (.ifCond .eq 15, 3) := by decide +kernel
theorem dX10_readOn_84 : decode cX10_readOn 84 = .ok (.aload_n 0, 1) := by decide +kernel
theorem dX10_readOn_85 : decode cX10_readOn 85 = .ok (.iconst 3, 1) := by decide +kernel
theorem dX10_readOn_86 : decode cX10_readOn 86 = .ok (.iload_n 2, 1) := by decide +kernel
theorem dX10_readOn_87 : decode cX10_readOn 87 = .ok (.bipush 65, 2) := by decide +kernel
theorem dX10_readOn_89 : decode cX10_readOn 89 = .ok (.isub, 1) := by decide +kernel
theorem dX10_readOn_90 : decode cX10_readOn 90 = .ok (.invokevirtual 137, 3) := by decide +kernel
theorem dX10_readOn_93 : decode cX10_readOn 93 = .ok (.goto 5, 3) := by decide +kernel
theorem dX10_readOn_96 : decode cX10_readOn 96 = .ok (.bipush (-6), 2) := by decide +kernel
theorem dX10_readOn_98 : decode cX10_readOn 98 = .ok (.ireturn, 1) := by decide +kernel
theorem dX10_readOn_99 : decode cX10_readOn 99 = .ok (.iload_n 2, 1) := by decide +kernel
theorem dX10_readOn_100 : decode cX10_readOn 100 = .ok (.bipush 98, 2) := by decide +kernel
theorem dX10_readOn_102 : decode cX10_readOn 102 = .ok (.if_icmp .ne 12, 3) := by decide +kernel
theorem dX10_readOn_105 : decode cX10_readOn 105 = .ok (.aload_n 0, 1) := by decide +kernel
theorem dX10_readOn_106 : decode cX10_readOn 106 = .ok (.iconst 0, 1) := by decide +kernel
theorem dX10_readOn_107 : decode cX10_readOn 107 = .ok (.iconst 0, 1) := by decide +kernel
theorem dX10_readOn_108 : decode cX10_readOn 108 = .ok (.invokevirtual 137, 3) := by decide +kernel
theorem dX10_readOn_111 : decode cX10_readOn 111 = .ok (.goto 45, 3) := by decide +kernel
theorem dX10_readOn_114 : decode cX10_readOn 114 = .ok (.iload_n 2, 1) := by decide +kernel
theorem dX10_readOn_115 : decode cX10_readOn 115 = .ok (.bipush 104, 2) := by decide +kernel
theorem dX10_readOn_117 : decode cX10_readOn 117 = .ok (.if_icmp .ne 12, 3) := by decide +kernel
theorem dX10_readOn_120 : decode cX10_readOn 120 = .ok (.aload_n 0, 1) := by decide +kernel
theorem dX10_readOn_121 : decode cX10_readOn 121 = .ok (.iconst 1, 1) := by decide +kernel
theorem dX10_readOn_122 : decode cX10_readOn 122 = .ok (.iconst 0, 1) := by decide +kernel
theorem dX10_readOn_123 : decode cX10_readOn 123 = .ok (.invokevirtual 137, 3) := by decide +kernel
theorem dX10_readOn_126 : decode cX10_readOn 126 = .ok (.goto 30, 3) := by decide +kernel
theorem dX10_readOn_129 : decode cX10_readOn 129 = .ok (.iload_n 2, 1) := by decide +kernel
theorem dX10_readOn_130 : decode cX10_readOn 130 = .ok (.bipush 120, 2) := by decide +kernel
theorem dX10_readOn_132 : decode cX10_readOn 132 = .ok (.if_icmp .ne 12, 3) := by decide +kernel
theorem dX10_readOn_135 : decode cX10_readOn 135 = .ok (.aload_n 0, 1) := by decide +kernel
theorem dX10_readOn_136 : decode cX10_readOn 136 = .ok (.iconst 2, 1) := by decide +kernel
theorem dX10_readOn_137 : decode cX10_readOn 137 = .ok (.iconst 0, 1) := by decide +kernel
theorem dX10_readOn_138 : decode cX10_readOn 138 = .ok (.invokevirtual 137, 3) := by decide +kernel
theorem dX10_readOn_141 : decode cX10_readOn 141 = .ok (.goto 15, 3) := by decide +kernel
theorem dX10_readOn_144 : decode cX10_readOn 144 = .ok (.iload_n 2, 1) := by decide +kernel
theorem dX10_readOn_145 : decode cX10_readOn 145 = .ok (.bipush 62, 2) := by decide +kernel
theorem dX10_readOn_147 : decode cX10_readOn 147 = .ok (.if_icmp .ne 7, 3) := by decide +kernel
theorem dX10_readOn_150 : decode cX10_readOn 150 = .ok (.iconst 2, 1) := by decide +kernel
theorem dX10_readOn_151 : decode cX10_readOn 151 = .ok (.goto 5, 3) := by decide +kernel
theorem dX10_readOn_154 : decode cX10_readOn 154 = .ok (.bipush (-6), 2) := by decide +kernel
theorem dX10_readOn_156 : decode cX10_readOn 156 = .ok (.ireturn, 1) := by decide +kernel
theorem dX10_fault_0 : decode cX10_fault 0 = .ok (.aload_n 0, 1) := by decide +kernel
theorem dX10_fault_1 : decode cX10_fault 1 = .ok (.iconst 0, 1) := by decide +kernel
theorem dX10_fault_2 : decode cX10_fault 2 = .ok (.putfield 131, 3) := by decide +kernel
theorem dX10_fault_5 : decode cX10_fault 5 = .ok (.iconst 0, 1) := by decide +kernel
theorem dX10_fault_6 : decode cX10_fault 6 = .ok (.istore_n 1, 1) := by decide +kernel
theorem dX10_fault_7 : decode cX10_fault 7 = .ok (.iconst 0, 1) := by decide +kernel
theorem dX10_fault_8 : decode cX10_fault 8 = .ok (.istore_n 2, 1) := by decide +kernel
theorem dX10_fault_9 : decode cX10_fault 9 = .ok (.iload_n 2, 1) := by decide +kernel
theorem dX10_fault_10 : decode cX10_fault 10 = .ok (.aload_n 0, 1) := by decide +kernel
theorem dX10_fault_11 : decode cX10_fault 11 = .ok (.getfield 124, 3) := by decide +kernel
theorem dX10_fault_14 : decode cX10_fault 14 = .ok (.if_icmp .ge 27, 3) := by decide +kernel
theorem dX10_fault_17 : decode cX10_fault 17 = .ok (.aload_n 0, 1) := by decide +kernel
theorem dX10_fault_18 : decode cX10_fault 18 = .ok (.iload_n 1, 1) := by decide +kernel
theorem dX10_fault_19 : decode cX10_fault 19 = .ok (.aload_n 0, 1) := by decide +kernel
theorem dX10_fault_20 : decode cX10_fault 20 = .ok (.getfield 28, 3) := by decide +kernel
theorem dX10_fault_23 : decode cX10_fault 23 = .ok (.iload_n 2, 1) := by decide +kernel
theorem dX10_fault_24 : decode cX10_fault 24 = .ok (.iaload, 1) := by decide +kernel
theorem dX10_fault_25 : decode cX10_fault 25 = .ok (.invokevirtual 141, 3) := by decide +kernel
theorem dX10_fault_28 : decode cX10_fault 28 = .ok (.istore_n 1, 1) := by decide +kernel
theorem dX10_fault_29 : decode cX10_fault 29 = .ok (.iload_n 1, 1) := by decide +kernel
theorem dX10_fault_30 : decode cX10_fault 30 = .ok (.ifCond .ge 5, 3) := by decide +kernel
theorem dX10_fault_33 : decode cX10_fault 33 = .ok (.iload_n 2, 1) := by decide +kernel
theorem dX10_fault_34 : decode cX10_fault 34 = .ok (.ireturn, 1) := by decide +kernel
theorem dX10_fault_35 : decode cX10_fault 35 = .ok (.iinc 2 1, 3) := by decide +kernel
theorem dX10_fault_38 : decode cX10_fault 38 = .ok (.goto (-29), 3) := by decide +kernel
theorem dX10_fault_41 : decode cX10_fault 41 = .ok (.iload_n 1, 1) := by decide +kernel
theorem dX10_fault_42 : decode cX10_fault 42 = .ok (.ifCond .ne 8, 3) := by decide +kernel
theorem dX10_fault_45 : decode cX10_fault 45 = .ok (.bipush (-6), 2) := by decide +kernel
theorem dX10_fault_47 : decode cX10_fault 47 = .ok (.goto 7, 3) := by decide +kernel
theorem dX10_fault_50 : decode cX10_fault 50 = .ok (.aload_n 0, 1) := by decide +kernel
theorem dX10_fault_51 : decode cX10_fault 51 = .ok (.getfield 124, 3) := by decide +kernel
theorem dX10_fault_54 : decode cX10_fault 54 = .ok (.ireturn, 1) := by decide +kernel
theorem dX10_whyNotGive_0 : decode cX10_whyNotGive 0 = .ok (.aload_n 0, 1) := by decide +kernel
theorem dX10_whyNotGive_1 : decode cX10_whyNotGive 1 = .ok (.iload_n 2, 1) := by decide +kernel
theorem dX10_whyNotGive_2 : decode cX10_whyNotGive 2 = .ok (.invokevirtual 109, 3) := by decide +kernel
theorem dX10_whyNotGive_5 : decode cX10_whyNotGive 5 = .ok (.ifCond .ne 5, 3) := by decide +kernel
theorem dX10_whyNotGive_8 : decode cX10_whyNotGive 8 = .ok (.iconst 1, 1) := by decide +kernel
theorem dX10_whyNotGive_9 : decode cX10_whyNotGive 9 = .ok (.ireturn, 1) := by decide +kernel
theorem dX10_whyNotGive_10 : decode cX10_whyNotGive 10 = .ok (.iload_n 1, 1) := by decide +kernel
theorem dX10_whyNotGive_11 : decode cX10_whyNotGive 11 = .ok (.iload_n 2, 1) := by decide +kernel
theorem dX10_whyNotGive_12 : decode cX10_whyNotGive 12 = .ok (.if_icmp .ne 5, 3) := by decide +kernel
theorem dX10_whyNotGive_15 : decode cX10_whyNotGive 15 = .ok (.iconst 2, 1) := by decide +kernel
theorem dX10_whyNotGive_16 : decode cX10_whyNotGive 16 = .ok (.ireturn, 1) := by decide +kernel
theorem dX10_whyNotGive_17 : decode cX10_whyNotGive 17 = .ok (.aload_n 0, 1) := by decide +kernel
theorem dX10_whyNotGive_18 : decode cX10_whyNotGive 18 = .ok (.getfield 19, 3) := by decide +kernel
theorem dX10_whyNotGive_21 : decode cX10_whyNotGive 21 = .ok (.iload_n 2, 1) := by decide +kernel
theorem dX10_whyNotGive_22 : decode cX10_whyNotGive 22 = .ok (.iaload, 1) := by decide +kernel
theorem dX10_whyNotGive_23 : decode cX10_whyNotGive 23 = .ok (.iconst 2, 1) := by decide +kernel
theorem dX10_whyNotGive_24 : decode cX10_whyNotGive 24 = .ok (.if_icmp .ne 7, 3) := by decide +kernel
theorem dX10_whyNotGive_27 : decode cX10_whyNotGive 27 = .ok (.iconst 3, 1) := by decide +kernel
theorem dX10_whyNotGive_28 : decode cX10_whyNotGive 28 = .ok (.goto 17, 3) := by decide +kernel
theorem dX10_whyNotGive_31 : decode cX10_whyNotGive 31 = .ok (.aload_n 0, 1) := by decide +kernel
theorem dX10_whyNotGive_32 : decode cX10_whyNotGive 32 = .ok (.getfield 19, 3) := by decide +kernel
theorem dX10_whyNotGive_35 : decode cX10_whyNotGive 35 = .ok (.iload_n 1, 1) := by decide +kernel
theorem dX10_whyNotGive_36 : decode cX10_whyNotGive 36 = .ok (.iaload, 1) := by decide +kernel
theorem dX10_whyNotGive_37 : decode cX10_whyNotGive 37 = .ok (.ifCond .ne 7, 3) := by decide +kernel
theorem dX10_whyNotGive_40 : decode cX10_whyNotGive 40 = .ok (.iconst 5, 1) := by decide +kernel
theorem dX10_whyNotGive_41 : decode cX10_whyNotGive 41 = .ok (.goto 4, 3) := by decide +kernel
theorem dX10_whyNotGive_44 : decode cX10_whyNotGive 44 = .ok (.iconst 0, 1) := by decide +kernel
theorem dX10_whyNotGive_45 : decode cX10_whyNotGive 45 = .ok (.ireturn, 1) := by decide +kernel
theorem dX10_whyNot_0 : decode cX10_whyNot 0 = .ok (.iload_n 1, 1) := by decide +kernel
theorem dX10_whyNot_1 : decode cX10_whyNot 1 = .ok (.iconst 4, 1) := by decide +kernel
theorem dX10_whyNot_2 : decode cX10_whyNot 2 = .ok (.if_icmp .eq 8, 3) := by decide +kernel
theorem dX10_whyNot_5 : decode cX10_whyNot 5 = .ok (.iload_n 1, 1) := by decide +kernel
theorem dX10_whyNot_6 : decode cX10_whyNot 6 = .ok (.iconst 5, 1) := by decide +kernel
theorem dX10_whyNot_7 : decode cX10_whyNot 7 = .ok (.if_icmp .ne 5, 3) := by decide +kernel
theorem dX10_whyNot_10 : decode cX10_whyNot 10 = .ok (.iconst 0, 1) := by decide +kernel
theorem dX10_whyNot_11 : decode cX10_whyNot 11 = .ok (.ireturn, 1) := by decide +kernel
theorem dX10_whyNot_12 : decode cX10_whyNot 12 = .ok (.aload_n 0, 1) := by decide +kernel
theorem dX10_whyNot_13 : decode cX10_whyNot 13 = .ok (.iload_n 2, 1) := by decide +kernel
theorem dX10_whyNot_14 : decode cX10_whyNot 14 = .ok (.invokevirtual 109, 3) := by decide +kernel
theorem dX10_whyNot_17 : decode cX10_whyNot 17 = .ok (.ifCond .ne 5, 3) := by decide +kernel
theorem dX10_whyNot_20 : decode cX10_whyNot 20 = .ok (.iconst 1, 1) := by decide +kernel
theorem dX10_whyNot_21 : decode cX10_whyNot 21 = .ok (.ireturn, 1) := by decide +kernel
theorem dX10_whyNot_22 : decode cX10_whyNot 22 = .ok (.iload_n 1, 1) := by decide +kernel
theorem dX10_whyNot_23 : decode cX10_whyNot 23 = .ok (.iconst 2, 1) := by decide +kernel
theorem dX10_whyNot_24 : decode cX10_whyNot 24 = .ok (.if_icmp .ne 5, 3) := by decide +kernel
theorem dX10_whyNot_27 : decode cX10_whyNot 27 = .ok (.iconst 0, 1) := by decide +kernel
theorem dX10_whyNot_28 : decode cX10_whyNot 28 = .ok (.ireturn, 1) := by decide +kernel
theorem dX10_whyNot_29 : decode cX10_whyNot 29 = .ok (.iload_n 1, 1) := by decide +kernel
theorem dX10_whyNot_30 : decode cX10_whyNot 30 = .ok (.iconst 3, 1) := by decide +kernel
theorem dX10_whyNot_31 : decode cX10_whyNot 31 = .ok (.if_icmp .ne 10, 3) := by decide +kernel
theorem dX10_whyNot_34 : decode cX10_whyNot 34 = .ok (.aload_n 0, 1) := by decide +kernel
theorem dX10_whyNot_35 : decode cX10_whyNot 35 = .ok (.iload_n 2, 1) := by decide +kernel
theorem dX10_whyNot_36 : decode cX10_whyNot 36 = .ok (.iload_n 3, 1) := by decide +kernel
theorem dX10_whyNot_37 : decode cX10_whyNot 37 = .ok (.invokevirtual 144, 3) := by decide +kernel
theorem dX10_whyNot_40 : decode cX10_whyNot 40 = .ok (.ireturn, 1) := by decide +kernel
theorem dX10_whyNot_41 : decode cX10_whyNot 41 = .ok (.iload_n 1, 1) := by decide +kernel
theorem dX10_whyNot_42 : decode cX10_whyNot 42 = .ok (.ifCond .ne 7, 3) := by decide +kernel
theorem dX10_whyNot_45 : decode cX10_whyNot 45 = .ok (.iconst 2, 1) := by decide +kernel
theorem dX10_whyNot_46 : decode cX10_whyNot 46 = .ok (.goto 4, 3) := by decide +kernel
theorem dX10_whyNot_49 : decode cX10_whyNot 49 = .ok (.iconst 1, 1) := by decide +kernel
theorem dX10_whyNot_50 : decode cX10_whyNot 50 = .ok (.istore 4, 2) := by decide +kernel
theorem dX10_whyNot_52 : decode cX10_whyNot 52 = .ok (.aload_n 0, 1) := by decide +kernel
theorem dX10_whyNot_53 : decode cX10_whyNot 53 = .ok (.getfield 19, 3) := by decide +kernel
theorem dX10_whyNot_56 : decode cX10_whyNot 56 = .ok (.iload_n 2, 1) := by decide +kernel
theorem dX10_whyNot_57 : decode cX10_whyNot 57 = .ok (.iaload, 1) := by decide +kernel
theorem dX10_whyNot_58 : decode cX10_whyNot 58 = .ok (.iload 4, 2) := by decide +kernel
theorem dX10_whyNot_60 : decode cX10_whyNot 60 = .ok (.iadd, 1) := by decide +kernel
theorem dX10_whyNot_61 : decode cX10_whyNot 61 = .ok (.iconst 2, 1) := by decide +kernel
theorem dX10_whyNot_62 : decode cX10_whyNot 62 = .ok (.if_icmp .le 7, 3) := by decide +kernel
theorem dX10_whyNot_65 : decode cX10_whyNot 65 = .ok (.iconst 3, 1) := by decide +kernel
theorem dX10_whyNot_66 : decode cX10_whyNot 66 = .ok (.goto 17, 3) := by decide +kernel
theorem dX10_whyNot_69 : decode cX10_whyNot 69 = .ok (.aload_n 0, 1) := by decide +kernel
theorem dX10_whyNot_70 : decode cX10_whyNot 70 = .ok (.getfield 117, 3) := by decide +kernel
theorem dX10_whyNot_73 : decode cX10_whyNot 73 = .ok (.iload 4, 2) := by decide +kernel
theorem dX10_whyNot_75 : decode cX10_whyNot 75 = .ok (.if_icmp .ge 7, 3) := by decide +kernel
theorem dX10_whyNot_78 : decode cX10_whyNot 78 = .ok (.iconst 4, 1) := by decide +kernel
theorem dX10_whyNot_79 : decode cX10_whyNot 79 = .ok (.goto 4, 3) := by decide +kernel
theorem dX10_whyNot_82 : decode cX10_whyNot 82 = .ok (.iconst 0, 1) := by decide +kernel
theorem dX10_whyNot_83 : decode cX10_whyNot 83 = .ok (.ireturn, 1) := by decide +kernel
theorem dX10_oldestNow_0 : decode cX10_oldestNow 0 = .ok (.bipush (-6), 2) := by decide +kernel
theorem dX10_oldestNow_2 : decode cX10_oldestNow 2 = .ok (.istore_n 1, 1) := by decide +kernel
theorem dX10_oldestNow_3 : decode cX10_oldestNow 3 = .ok (.iconst 0, 1) := by decide +kernel
theorem dX10_oldestNow_4 : decode cX10_oldestNow 4 = .ok (.istore_n 2, 1) := by decide +kernel
theorem dX10_oldestNow_5 : decode cX10_oldestNow 5 = .ok (.iload_n 2, 1) := by decide +kernel
theorem dX10_oldestNow_6 : decode cX10_oldestNow 6 = .ok (.bipush 6, 2) := by decide +kernel
theorem dX10_oldestNow_8 : decode cX10_oldestNow 8 = .ok (.if_icmp .ge 42, 3) := by decide +kernel
theorem dX10_oldestNow_11 : decode cX10_oldestNow 11 = .ok (.aload_n 0, 1) := by decide +kernel
theorem dX10_oldestNow_12 : decode cX10_oldestNow 12 = .ok (.iload_n 2, 1) := by decide +kernel
theorem dX10_oldestNow_13 : decode cX10_oldestNow 13 = .ok (.invokevirtual 109, 3) := by decide +kernel
theorem dX10_oldestNow_16 : decode cX10_oldestNow 16 = .ok (.ifCond .eq 26, 3) := by decide +kernel
theorem dX10_oldestNow_19 : decode cX10_oldestNow 19 = .ok (.iload_n 1, 1) := by decide +kernel
theorem dX10_oldestNow_20 : decode cX10_oldestNow 20 = .ok (.ifCond .lt 18, 3) := by decide +kernel
theorem dX10_oldestNow_23 : decode cX10_oldestNow 23 = .ok (.aload_n 0, 1) := by decide +kernel
theorem dX10_oldestNow_24 : decode cX10_oldestNow 24 = .ok (.getfield 7, 3) := by decide +kernel
theorem dX10_oldestNow_27 : decode cX10_oldestNow 27 = .ok (.iload_n 2, 1) := by decide +kernel
theorem dX10_oldestNow_28 : decode cX10_oldestNow 28 = .ok (.iaload, 1) := by decide +kernel
theorem dX10_oldestNow_29 : decode cX10_oldestNow 29 = .ok (.aload_n 0, 1) := by decide +kernel
theorem dX10_oldestNow_30 : decode cX10_oldestNow 30 = .ok (.getfield 7, 3) := by decide +kernel
theorem dX10_oldestNow_33 : decode cX10_oldestNow 33 = .ok (.iload_n 1, 1) := by decide +kernel
theorem dX10_oldestNow_34 : decode cX10_oldestNow 34 = .ok (.iaload, 1) := by decide +kernel
theorem dX10_oldestNow_35 : decode cX10_oldestNow 35 = .ok (.if_icmp .le 7, 3) := by decide +kernel
theorem dX10_oldestNow_38 : decode cX10_oldestNow 38 = .ok (.iload_n 2, 1) := by decide +kernel
theorem dX10_oldestNow_39 : decode cX10_oldestNow 39 = .ok (.goto 4, 3) := by decide +kernel
theorem dX10_oldestNow_42 : decode cX10_oldestNow 42 = .ok (.iload_n 1, 1) := by decide +kernel
theorem dX10_oldestNow_43 : decode cX10_oldestNow 43 = .ok (.istore_n 1, 1) := by decide +kernel
theorem dX10_oldestNow_44 : decode cX10_oldestNow 44 = .ok (.iinc 2 1, 3) := by decide +kernel
theorem dX10_oldestNow_47 : decode cX10_oldestNow 47 = .ok (.goto (-42), 3) := by decide +kernel
theorem dX10_oldestNow_50 : decode cX10_oldestNow 50 = .ok (.iload_n 1, 1) := by decide +kernel
theorem dX10_oldestNow_51 : decode cX10_oldestNow 51 = .ok (.ireturn, 1) := by decide +kernel
theorem dX10_passing_0 : decode cX10_passing 0 = .ok (.iconst 0, 1) := by decide +kernel
theorem dX10_passing_1 : decode cX10_passing 1 = .ok (.istore_n 1, 1) := by decide +kernel
theorem dX10_passing_2 : decode cX10_passing 2 = .ok (.iload_n 1, 1) := by decide +kernel
theorem dX10_passing_3 : decode cX10_passing 3 = .ok (.bipush 6, 2) := by decide +kernel
theorem dX10_passing_5 : decode cX10_passing 5 = .ok (.if_icmp .ge 107, 3) := by decide +kernel
theorem dX10_passing_8 : decode cX10_passing 8 = .ok (.iload_n 1, 1) := by decide +kernel
theorem dX10_passing_9 : decode cX10_passing 9 = .ok (.iconst 1, 1) := by decide +kernel
theorem dX10_passing_10 : decode cX10_passing 10 = .ok (.iadd, 1) := by decide +kernel
theorem dX10_passing_11 : decode cX10_passing 11 = .ok (.istore_n 2, 1) := by decide +kernel
theorem dX10_passing_12 : decode cX10_passing 12 = .ok (.iload_n 2, 1) := by decide +kernel
theorem dX10_passing_13 : decode cX10_passing 13 = .ok (.bipush 6, 2) := by decide +kernel
theorem dX10_passing_15 : decode cX10_passing 15 = .ok (.if_icmp .ge 91, 3) := by decide +kernel
theorem dX10_passing_18 : decode cX10_passing 18 = .ok (.aload_n 0, 1) := by decide +kernel
theorem dX10_passing_19 : decode cX10_passing 19 = .ok (.getfield 43, 3) := by decide +kernel
theorem dX10_passing_22 : decode cX10_passing 22 = .ok (.iload_n 1, 1) := by decide +kernel
theorem dX10_passing_23 : decode cX10_passing 23 = .ok (.iaload, 1) := by decide +kernel
theorem dX10_passing_24 : decode cX10_passing 24 = .ok (.aload_n 0, 1) := by decide +kernel
theorem dX10_passing_25 : decode cX10_passing 25 = .ok (.getfield 43, 3) := by decide +kernel
theorem dX10_passing_28 : decode cX10_passing 28 = .ok (.iload_n 2, 1) := by decide +kernel
theorem dX10_passing_29 : decode cX10_passing 29 = .ok (.iaload, 1) := by decide +kernel
theorem dX10_passing_30 : decode cX10_passing 30 = .ok (.isub, 1) := by decide +kernel
theorem dX10_passing_31 : decode cX10_passing 31 = .ok (.istore_n 3, 1) := by decide +kernel
theorem dX10_passing_32 : decode cX10_passing 32 = .ok (.aload_n 0, 1) := by decide +kernel
theorem dX10_passing_33 : decode cX10_passing 33 = .ok (.getfield 7, 3) := by decide +kernel
theorem dX10_passing_36 : decode cX10_passing 36 = .ok (.iload_n 1, 1) := by decide +kernel
theorem dX10_passing_37 : decode cX10_passing 37 = .ok (.iaload, 1) := by decide +kernel
theorem dX10_passing_38 : decode cX10_passing 38 = .ok (.aload_n 0, 1) := by decide +kernel
theorem dX10_passing_39 : decode cX10_passing 39 = .ok (.getfield 7, 3) := by decide +kernel
theorem dX10_passing_42 : decode cX10_passing 42 = .ok (.iload_n 2, 1) := by decide +kernel
theorem dX10_passing_43 : decode cX10_passing 43 = .ok (.iaload, 1) := by decide +kernel
theorem dX10_passing_44 : decode cX10_passing 44 = .ok (.isub, 1) := by decide +kernel
theorem dX10_passing_45 : decode cX10_passing 45 = .ok (.istore 4, 2) := by decide +kernel
theorem dX10_passing_47 : decode cX10_passing 47 = .ok (.iload_n 3, 1) := by decide +kernel
theorem dX10_passing_48 : decode cX10_passing 48 = .ok (.ifCond .ge 8, 3) := by decide +kernel
theorem dX10_passing_51 : decode cX10_passing 51 = .ok (.iload 4, 2) := by decide +kernel
theorem dX10_passing_53 : decode cX10_passing 53 = .ok (.ifCond .gt 12, 3) := by decide +kernel
theorem dX10_passing_56 : decode cX10_passing 56 = .ok (.iload_n 3, 1) := by decide +kernel
theorem dX10_passing_57 : decode cX10_passing 57 = .ok (.ifCond .le 12, 3) := by decide +kernel
theorem dX10_passing_60 : decode cX10_passing 60 = .ok (.iload 4, 2) := by decide +kernel
theorem dX10_passing_62 : decode cX10_passing 62 = .ok (.ifCond .ge 7, 3) := by decide +kernel
theorem dX10_passing_65 : decode cX10_passing 65 = .ok (.iconst 1, 1) := by decide +kernel
theorem dX10_passing_66 : decode cX10_passing 66 = .ok (.goto 4, 3) := by decide +kernel
theorem dX10_passing_69 : decode cX10_passing 69 = .ok (.iconst 0, 1) := by decide +kernel
theorem dX10_passing_70 : decode cX10_passing 70 = .ok (.istore 5, 2) := by decide +kernel
theorem dX10_passing_72 : decode cX10_passing 72 = .ok (.aload_n 0, 1) := by decide +kernel
theorem dX10_passing_73 : decode cX10_passing 73 = .ok (.iload_n 1, 1) := by decide +kernel
theorem dX10_passing_74 : decode cX10_passing 74 = .ok (.invokevirtual 109, 3) := by decide +kernel
theorem dX10_passing_77 : decode cX10_passing 77 = .ok (.ifCond .eq 23, 3) := by decide +kernel
theorem dX10_passing_80 : decode cX10_passing 80 = .ok (.aload_n 0, 1) := by decide +kernel
theorem dX10_passing_81 : decode cX10_passing 81 = .ok (.iload_n 2, 1) := by decide +kernel
theorem dX10_passing_82 : decode cX10_passing 82 = .ok (.invokevirtual 109, 3) := by decide +kernel
theorem dX10_passing_85 : decode cX10_passing 85 = .ok (.ifCond .eq 15, 3) := by decide +kernel
theorem dX10_passing_88 : decode cX10_passing 88 = .ok (.iload 5, 2) := by decide +kernel
theorem dX10_passing_90 : decode cX10_passing 90 = .ok (.ifCond .eq 10, 3) := by decide +kernel
theorem dX10_passing_93 : decode cX10_passing 93 = .ok (.bipush 10, 2) := by decide +kernel
theorem dX10_passing_95 : decode cX10_passing 95 = .ok (.iload_n 1, 1) := by decide +kernel
theorem dX10_passing_96 : decode cX10_passing 96 = .ok (.imul, 1) := by decide +kernel
theorem dX10_passing_97 : decode cX10_passing 97 = .ok (.iload_n 2, 1) := by decide +kernel
theorem dX10_passing_98 : decode cX10_passing 98 = .ok (.iadd, 1) := by decide +kernel
theorem dX10_passing_99 : decode cX10_passing 99 = .ok (.ireturn, 1) := by decide +kernel
theorem dX10_passing_100 : decode cX10_passing 100 = .ok (.iinc 2 1, 3) := by decide +kernel
theorem dX10_passing_103 : decode cX10_passing 103 = .ok (.goto (-91), 3) := by decide +kernel
theorem dX10_passing_106 : decode cX10_passing 106 = .ok (.iinc 1 1, 3) := by decide +kernel
theorem dX10_passing_109 : decode cX10_passing 109 = .ok (.goto (-107), 3) := by decide +kernel
theorem dX10_passing_112 : decode cX10_passing 112 = .ok (.bipush (-6), 2) := by decide +kernel
theorem dX10_passing_114 : decode cX10_passing 114 = .ok (.ireturn, 1) := by decide +kernel
theorem dX10_passMorning_0 : decode cX10_passMorning 0 = .ok (.iconst 0, 1) := by decide +kernel
theorem dX10_passMorning_1 : decode cX10_passMorning 1 = .ok (.istore_n 1, 1) := by decide +kernel
theorem dX10_passMorning_2 : decode cX10_passMorning 2 = .ok (.iload_n 1, 1) := by decide +kernel
theorem dX10_passMorning_3 : decode cX10_passMorning 3 = .ok (.bipush 6, 2) := by decide +kernel
theorem dX10_passMorning_5 : decode cX10_passMorning 5 = .ok (.if_icmp .ge 68, 3) := by decide +kernel
theorem dX10_passMorning_8 : decode cX10_passMorning 8 = .ok (.aload_n 0, 1) := by decide +kernel
theorem dX10_passMorning_9 : decode cX10_passMorning 9 = .ok (.getfield 43, 3) := by decide +kernel
theorem dX10_passMorning_12 : decode cX10_passMorning 12 = .ok (.iload_n 1, 1) := by decide +kernel
theorem dX10_passMorning_13 : decode cX10_passMorning 13 = .ok (.aload_n 0, 1) := by decide +kernel
theorem dX10_passMorning_14 : decode cX10_passMorning 14 = .ok (.getfield 7, 3) := by decide +kernel
theorem dX10_passMorning_17 : decode cX10_passMorning 17 = .ok (.iload_n 1, 1) := by decide +kernel
theorem dX10_passMorning_18 : decode cX10_passMorning 18 = .ok (.iaload, 1) := by decide +kernel
theorem dX10_passMorning_19 : decode cX10_passMorning 19 = .ok (.iastore, 1) := by decide +kernel
theorem dX10_passMorning_20 : decode cX10_passMorning 20 = .ok (.aload_n 0, 1) := by decide +kernel
theorem dX10_passMorning_21 : decode cX10_passMorning 21 = .ok (.getfield 7, 3) := by decide +kernel
theorem dX10_passMorning_24 : decode cX10_passMorning 24 = .ok (.iload_n 1, 1) := by decide +kernel
theorem dX10_passMorning_25 : decode cX10_passMorning 25 = .ok (.aload_n 0, 1) := by decide +kernel
theorem dX10_passMorning_26 : decode cX10_passMorning 26 = .ok (.iload_n 1, 1) := by decide +kernel
theorem dX10_passMorning_27 : decode cX10_passMorning 27 = .ok (.invokevirtual 109, 3) := by decide +kernel
theorem dX10_passMorning_30 : decode cX10_passMorning 30 = .ok (.ifCond .eq 23, 3) := by decide +kernel
theorem dX10_passMorning_33 : decode cX10_passMorning 33 = .ok (.aload_n 0, 1) := by decide +kernel
theorem dX10_passMorning_34 : decode cX10_passMorning 34 = .ok (.iload_n 1, 1) := by decide +kernel
theorem dX10_passMorning_35 : decode cX10_passMorning 35 = .ok (.aload_n 0, 1) := by decide +kernel
theorem dX10_passMorning_36 : decode cX10_passMorning 36 = .ok (.getfield 7, 3) := by decide +kernel
theorem dX10_passMorning_39 : decode cX10_passMorning 39 = .ok (.iload_n 1, 1) := by decide +kernel
theorem dX10_passMorning_40 : decode cX10_passMorning 40 = .ok (.iaload, 1) := by decide +kernel
theorem dX10_passMorning_41 : decode cX10_passMorning 41 = .ok (.aload_n 0, 1) := by decide +kernel
theorem dX10_passMorning_42 : decode cX10_passMorning 42 = .ok (.getfield 19, 3) := by decide +kernel
theorem dX10_passMorning_45 : decode cX10_passMorning 45 = .ok (.iload_n 1, 1) := by decide +kernel
theorem dX10_passMorning_46 : decode cX10_passMorning 46 = .ok (.iaload, 1) := by decide +kernel
theorem dX10_passMorning_47 : decode cX10_passMorning 47 = .ok (.invokevirtual 147, 3) := by decide +kernel
theorem dX10_passMorning_50 : decode cX10_passMorning 50 = .ok (.goto 9, 3) := by decide +kernel
theorem dX10_passMorning_53 : decode cX10_passMorning 53 = .ok (.aload_n 0, 1) := by decide +kernel
theorem dX10_passMorning_54 : decode cX10_passMorning 54 = .ok (.getfield 7, 3) := by decide +kernel
theorem dX10_passMorning_57 : decode cX10_passMorning 57 = .ok (.iload_n 1, 1) := by decide +kernel
theorem dX10_passMorning_58 : decode cX10_passMorning 58 = .ok (.iaload, 1) := by decide +kernel
theorem dX10_passMorning_59 : decode cX10_passMorning 59 = .ok (.iastore, 1) := by decide +kernel
theorem dX10_passMorning_60 : decode cX10_passMorning 60 = .ok (.aload_n 0, 1) := by decide +kernel
theorem dX10_passMorning_61 : decode cX10_passMorning 61 = .ok (.getfield 19, 3) := by decide +kernel
theorem dX10_passMorning_64 : decode cX10_passMorning 64 = .ok (.iload_n 1, 1) := by decide +kernel
theorem dX10_passMorning_65 : decode cX10_passMorning 65 = .ok (.iconst 0, 1) := by decide +kernel
theorem dX10_passMorning_66 : decode cX10_passMorning 66 = .ok (.iastore, 1) := by decide +kernel
theorem dX10_passMorning_67 : decode cX10_passMorning 67 = .ok (.iinc 1 1, 3) := by decide +kernel
theorem dX10_passMorning_70 : decode cX10_passMorning 70 = .ok (.goto (-68), 3) := by decide +kernel
theorem dX10_passMorning_73 : decode cX10_passMorning 73 = .ok (.aload_n 0, 1) := by decide +kernel
theorem dX10_passMorning_74 : decode cX10_passMorning 74 = .ok (.aload_n 0, 1) := by decide +kernel
theorem dX10_passMorning_75 : decode cX10_passMorning 75 = .ok (.getfield 89, 3) := by decide +kernel
theorem dX10_passMorning_78 : decode cX10_passMorning 78 = .ok (.iconst 1, 1) := by decide +kernel
theorem dX10_passMorning_79 : decode cX10_passMorning 79 = .ok (.if_icmp .ne 10, 3) := by decide +kernel
theorem dX10_passMorning_82 : decode cX10_passMorning 82 = .ok (.aload_n 0, 1) := by decide +kernel
theorem dX10_passMorning_83 : decode cX10_passMorning 83 = .ok (.getfield 85, 3) := by decide +kernel
theorem dX10_passMorning_86 : decode cX10_passMorning 86 = .ok (.goto 4, 3) := by decide +kernel
theorem dX10_passMorning_89 : decode cX10_passMorning 89 = .ok (.iconst 0, 1) := by decide +kernel
theorem dX10_passMorning_90 : decode cX10_passMorning 90 = .ok (.putfield 117, 3) := by decide +kernel
theorem dX10_passMorning_93 : decode cX10_passMorning 93 = .ok (.aload_n 0, 1) := by decide +kernel
theorem dX10_passMorning_94 : decode cX10_passMorning 94 = .ok (.invokevirtual 151, 3) := by decide +kernel
theorem dX10_passMorning_97 : decode cX10_passMorning 97 = .ok (.istore_n 1, 1) := by decide +kernel
theorem dX10_passMorning_98 : decode cX10_passMorning 98 = .ok (.iload_n 1, 1) := by decide +kernel
theorem dX10_passMorning_99 : decode cX10_passMorning 99 = .ok (.ifCond .lt 23, 3) := by decide +kernel
theorem dX10_passMorning_102 : decode cX10_passMorning 102 = .ok (.aload_n 0, 1) := by decide +kernel
theorem dX10_passMorning_103 : decode cX10_passMorning 103 = .ok (.getfield 155, 3) := by decide +kernel
theorem dX10_passMorning_106 : decode cX10_passMorning 106 = .ok (.ifCond .ge 16, 3) := by decide +kernel
theorem dX10_passMorning_109 : decode cX10_passMorning 109 = .ok (.aload_n 0, 1) := by decide +kernel
theorem dX10_passMorning_110 : decode cX10_passMorning 110 = .ok (.aload_n 0, 1) := by decide +kernel
theorem dX10_passMorning_111 : decode cX10_passMorning 111 = .ok (.getfield 158, 3) := by decide +kernel
theorem dX10_passMorning_114 : decode cX10_passMorning 114 = .ok (.putfield 155, 3) := by decide +kernel
theorem dX10_passMorning_117 : decode cX10_passMorning 117 = .ok (.aload_n 0, 1) := by decide +kernel
theorem dX10_passMorning_118 : decode cX10_passMorning 118 = .ok (.iload_n 1, 1) := by decide +kernel
theorem dX10_passMorning_119 : decode cX10_passMorning 119 = .ok (.putfield 161, 3) := by decide +kernel
theorem dX10_passMorning_122 : decode cX10_passMorning 122 = .ok (.aload_n 0, 1) := by decide +kernel
theorem dX10_passMorning_123 : decode cX10_passMorning 123 = .ok (.getfield 40, 3) := by decide +kernel
theorem dX10_passMorning_126 : decode cX10_passMorning 126 = .ok (.aload_n 0, 1) := by decide +kernel
theorem dX10_passMorning_127 : decode cX10_passMorning 127 = .ok (.getfield 158, 3) := by decide +kernel
theorem dX10_passMorning_130 : decode cX10_passMorning 130 = .ok (.aload_n 0, 1) := by decide +kernel
theorem dX10_passMorning_131 : decode cX10_passMorning 131 = .ok (.invokevirtual 164, 3) := by decide +kernel
theorem dX10_passMorning_134 : decode cX10_passMorning 134 = .ok (.iastore, 1) := by decide +kernel
theorem dX10_passMorning_135 : decode cX10_passMorning 135 = .ok (.aload_n 0, 1) := by decide +kernel
theorem dX10_passMorning_136 : decode cX10_passMorning 136 = .ok (.dup, 1) := by decide +kernel
theorem dX10_passMorning_137 : decode cX10_passMorning 137 = .ok (.getfield 158, 3) := by decide +kernel
theorem dX10_passMorning_140 : decode cX10_passMorning 140 = .ok (.iconst 1, 1) := by decide +kernel
theorem dX10_passMorning_141 : decode cX10_passMorning 141 = .ok (.iadd, 1) := by decide +kernel
theorem dX10_passMorning_142 : decode cX10_passMorning 142 = .ok (.putfield 158, 3) := by decide +kernel
theorem dX10_passMorning_145 : decode cX10_passMorning 145 = .ok (.return_, 1) := by decide +kernel
theorem dX10_eat_0 : decode cX10_eat 0 = .ok (.aload_n 0, 1) := by decide +kernel
theorem dX10_eat_1 : decode cX10_eat 1 = .ok (.getfield 19, 3) := by decide +kernel
theorem dX10_eat_4 : decode cX10_eat 4 = .ok (.iload_n 1, 1) := by decide +kernel
theorem dX10_eat_5 : decode cX10_eat 5 = .ok (.dup2, 1) := by decide +kernel
theorem dX10_eat_6 : decode cX10_eat 6 = .ok (.iaload, 1) := by decide +kernel
theorem dX10_eat_7 : decode cX10_eat 7 = .ok (.iload_n 2, 1) := by decide +kernel
theorem dX10_eat_8 : decode cX10_eat 8 = .ok (.iadd, 1) := by decide +kernel
theorem dX10_eat_9 : decode cX10_eat 9 = .ok (.iastore, 1) := by decide +kernel
theorem dX10_eat_10 : decode cX10_eat 10 = .ok (.aload_n 0, 1) := by decide +kernel
theorem dX10_eat_11 : decode cX10_eat 11 = .ok (.dup, 1) := by decide +kernel
theorem dX10_eat_12 : decode cX10_eat 12 = .ok (.getfield 117, 3) := by decide +kernel
theorem dX10_eat_15 : decode cX10_eat 15 = .ok (.iload_n 2, 1) := by decide +kernel
theorem dX10_eat_16 : decode cX10_eat 16 = .ok (.isub, 1) := by decide +kernel
theorem dX10_eat_17 : decode cX10_eat 17 = .ok (.putfield 117, 3) := by decide +kernel
theorem dX10_eat_20 : decode cX10_eat 20 = .ok (.return_, 1) := by decide +kernel
theorem dX10_happen_0 : decode cX10_happen 0 = .ok (.iload_n 1, 1) := by decide +kernel
theorem dX10_happen_1 : decode cX10_happen 1 = .ok (.tableswitch 106 0 4 #[35, 44, 53, 70, 93], 35) := by decide +kernel
theorem dX10_happen_36 : decode cX10_happen 36 = .ok (.aload_n 0, 1) := by decide +kernel
theorem dX10_happen_37 : decode cX10_happen 37 = .ok (.iload_n 2, 1) := by decide +kernel
theorem dX10_happen_38 : decode cX10_happen 38 = .ok (.iconst 2, 1) := by decide +kernel
theorem dX10_happen_39 : decode cX10_happen 39 = .ok (.invokevirtual 167, 3) := by decide +kernel
theorem dX10_happen_42 : decode cX10_happen 42 = .ok (.goto 69, 3) := by decide +kernel
theorem dX10_happen_45 : decode cX10_happen 45 = .ok (.aload_n 0, 1) := by decide +kernel
theorem dX10_happen_46 : decode cX10_happen 46 = .ok (.iload_n 2, 1) := by decide +kernel
theorem dX10_happen_47 : decode cX10_happen 47 = .ok (.iconst 1, 1) := by decide +kernel
theorem dX10_happen_48 : decode cX10_happen 48 = .ok (.invokevirtual 167, 3) := by decide +kernel
theorem dX10_happen_51 : decode cX10_happen 51 = .ok (.goto 60, 3) := by decide +kernel
theorem dX10_happen_54 : decode cX10_happen 54 = .ok (.aload_n 0, 1) := by decide +kernel
theorem dX10_happen_55 : decode cX10_happen 55 = .ok (.dup, 1) := by decide +kernel
theorem dX10_happen_56 : decode cX10_happen 56 = .ok (.getfield 98, 3) := by decide +kernel
theorem dX10_happen_59 : decode cX10_happen 59 = .ok (.iconst 1, 1) := by decide +kernel
theorem dX10_happen_60 : decode cX10_happen 60 = .ok (.iload_n 2, 1) := by decide +kernel
theorem dX10_happen_61 : decode cX10_happen 61 = .ok (.ishl, 1) := by decide +kernel
theorem dX10_happen_62 : decode cX10_happen 62 = .ok (.iconst (-1), 1) := by decide +kernel
theorem dX10_happen_63 : decode cX10_happen 63 = .ok (.ixor, 1) := by decide +kernel
theorem dX10_happen_64 : decode cX10_happen 64 = .ok (.iand, 1) := by decide +kernel
theorem dX10_happen_65 : decode cX10_happen 65 = .ok (.putfield 98, 3) := by decide +kernel
theorem dX10_happen_68 : decode cX10_happen 68 = .ok (.goto 43, 3) := by decide +kernel
theorem dX10_happen_71 : decode cX10_happen 71 = .ok (.aload_n 0, 1) := by decide +kernel
theorem dX10_happen_72 : decode cX10_happen 72 = .ok (.getfield 19, 3) := by decide +kernel
theorem dX10_happen_75 : decode cX10_happen 75 = .ok (.iload_n 2, 1) := by decide +kernel
theorem dX10_happen_76 : decode cX10_happen 76 = .ok (.dup2, 1) := by decide +kernel
theorem dX10_happen_77 : decode cX10_happen 77 = .ok (.iaload, 1) := by decide +kernel
theorem dX10_happen_78 : decode cX10_happen 78 = .ok (.iconst 1, 1) := by decide +kernel
theorem dX10_happen_79 : decode cX10_happen 79 = .ok (.isub, 1) := by decide +kernel
theorem dX10_happen_80 : decode cX10_happen 80 = .ok (.iastore, 1) := by decide +kernel
theorem dX10_happen_81 : decode cX10_happen 81 = .ok (.aload_n 0, 1) := by decide +kernel
theorem dX10_happen_82 : decode cX10_happen 82 = .ok (.getfield 19, 3) := by decide +kernel
theorem dX10_happen_85 : decode cX10_happen 85 = .ok (.iload_n 3, 1) := by decide +kernel
theorem dX10_happen_86 : decode cX10_happen 86 = .ok (.dup2, 1) := by decide +kernel
theorem dX10_happen_87 : decode cX10_happen 87 = .ok (.iaload, 1) := by decide +kernel
theorem dX10_happen_88 : decode cX10_happen 88 = .ok (.iconst 1, 1) := by decide +kernel
theorem dX10_happen_89 : decode cX10_happen 89 = .ok (.iadd, 1) := by decide +kernel
theorem dX10_happen_90 : decode cX10_happen 90 = .ok (.iastore, 1) := by decide +kernel
theorem dX10_happen_91 : decode cX10_happen 91 = .ok (.goto 20, 3) := by decide +kernel
theorem dX10_happen_94 : decode cX10_happen 94 = .ok (.aload_n 0, 1) := by decide +kernel
theorem dX10_happen_95 : decode cX10_happen 95 = .ok (.iconst 1, 1) := by decide +kernel
theorem dX10_happen_96 : decode cX10_happen 96 = .ok (.aload_n 0, 1) := by decide +kernel
theorem dX10_happen_97 : decode cX10_happen 97 = .ok (.getfield 89, 3) := by decide +kernel
theorem dX10_happen_100 : decode cX10_happen 100 = .ok (.isub, 1) := by decide +kernel
theorem dX10_happen_101 : decode cX10_happen 101 = .ok (.putfield 89, 3) := by decide +kernel
theorem dX10_happen_104 : decode cX10_happen 104 = .ok (.goto 7, 3) := by decide +kernel
theorem dX10_happen_107 : decode cX10_happen 107 = .ok (.aload_n 0, 1) := by decide +kernel
theorem dX10_happen_108 : decode cX10_happen 108 = .ok (.invokevirtual 171, 3) := by decide +kernel
theorem dX10_happen_111 : decode cX10_happen 111 = .ok (.return_, 1) := by decide +kernel
theorem dX10_keepNow_0 : decode cX10_keepNow 0 = .ok (.iconst 0, 1) := by decide +kernel
theorem dX10_keepNow_1 : decode cX10_keepNow 1 = .ok (.istore_n 1, 1) := by decide +kernel
theorem dX10_keepNow_2 : decode cX10_keepNow 2 = .ok (.iload_n 1, 1) := by decide +kernel
theorem dX10_keepNow_3 : decode cX10_keepNow 3 = .ok (.bipush 6, 2) := by decide +kernel
theorem dX10_keepNow_5 : decode cX10_keepNow 5 = .ok (.if_icmp .ge 36, 3) := by decide +kernel
theorem dX10_keepNow_8 : decode cX10_keepNow 8 = .ok (.aload_n 0, 1) := by decide +kernel
theorem dX10_keepNow_9 : decode cX10_keepNow 9 = .ok (.getfield 46, 3) := by decide +kernel
theorem dX10_keepNow_12 : decode cX10_keepNow 12 = .ok (.iload_n 1, 1) := by decide +kernel
theorem dX10_keepNow_13 : decode cX10_keepNow 13 = .ok (.aload_n 0, 1) := by decide +kernel
theorem dX10_keepNow_14 : decode cX10_keepNow 14 = .ok (.getfield 7, 3) := by decide +kernel
theorem dX10_keepNow_17 : decode cX10_keepNow 17 = .ok (.iload_n 1, 1) := by decide +kernel
theorem dX10_keepNow_18 : decode cX10_keepNow 18 = .ok (.iaload, 1) := by decide +kernel
theorem dX10_keepNow_19 : decode cX10_keepNow 19 = .ok (.iastore, 1) := by decide +kernel
theorem dX10_keepNow_20 : decode cX10_keepNow 20 = .ok (.aload_n 0, 1) := by decide +kernel
theorem dX10_keepNow_21 : decode cX10_keepNow 21 = .ok (.getfield 46, 3) := by decide +kernel
theorem dX10_keepNow_24 : decode cX10_keepNow 24 = .ok (.bipush 6, 2) := by decide +kernel
theorem dX10_keepNow_26 : decode cX10_keepNow 26 = .ok (.iload_n 1, 1) := by decide +kernel
theorem dX10_keepNow_27 : decode cX10_keepNow 27 = .ok (.iadd, 1) := by decide +kernel
theorem dX10_keepNow_28 : decode cX10_keepNow 28 = .ok (.aload_n 0, 1) := by decide +kernel
theorem dX10_keepNow_29 : decode cX10_keepNow 29 = .ok (.getfield 19, 3) := by decide +kernel
theorem dX10_keepNow_32 : decode cX10_keepNow 32 = .ok (.iload_n 1, 1) := by decide +kernel
theorem dX10_keepNow_33 : decode cX10_keepNow 33 = .ok (.iaload, 1) := by decide +kernel
theorem dX10_keepNow_34 : decode cX10_keepNow 34 = .ok (.iastore, 1) := by decide +kernel
theorem dX10_keepNow_35 : decode cX10_keepNow 35 = .ok (.iinc 1 1, 3) := by decide +kernel
theorem dX10_keepNow_38 : decode cX10_keepNow 38 = .ok (.goto (-36), 3) := by decide +kernel
theorem dX10_keepNow_41 : decode cX10_keepNow 41 = .ok (.aload_n 0, 1) := by decide +kernel
theorem dX10_keepNow_42 : decode cX10_keepNow 42 = .ok (.getfield 46, 3) := by decide +kernel
theorem dX10_keepNow_45 : decode cX10_keepNow 45 = .ok (.bipush 12, 2) := by decide +kernel
theorem dX10_keepNow_47 : decode cX10_keepNow 47 = .ok (.aload_n 0, 1) := by decide +kernel
theorem dX10_keepNow_48 : decode cX10_keepNow 48 = .ok (.getfield 98, 3) := by decide +kernel
theorem dX10_keepNow_51 : decode cX10_keepNow 51 = .ok (.iastore, 1) := by decide +kernel
theorem dX10_keepNow_52 : decode cX10_keepNow 52 = .ok (.aload_n 0, 1) := by decide +kernel
theorem dX10_keepNow_53 : decode cX10_keepNow 53 = .ok (.getfield 46, 3) := by decide +kernel
theorem dX10_keepNow_56 : decode cX10_keepNow 56 = .ok (.bipush 13, 2) := by decide +kernel
theorem dX10_keepNow_58 : decode cX10_keepNow 58 = .ok (.aload_n 0, 1) := by decide +kernel
theorem dX10_keepNow_59 : decode cX10_keepNow 59 = .ok (.getfield 117, 3) := by decide +kernel
theorem dX10_keepNow_62 : decode cX10_keepNow 62 = .ok (.iastore, 1) := by decide +kernel
theorem dX10_keepNow_63 : decode cX10_keepNow 63 = .ok (.aload_n 0, 1) := by decide +kernel
theorem dX10_keepNow_64 : decode cX10_keepNow 64 = .ok (.getfield 46, 3) := by decide +kernel
theorem dX10_keepNow_67 : decode cX10_keepNow 67 = .ok (.bipush 14, 2) := by decide +kernel
theorem dX10_keepNow_69 : decode cX10_keepNow 69 = .ok (.aload_n 0, 1) := by decide +kernel
theorem dX10_keepNow_70 : decode cX10_keepNow 70 = .ok (.getfield 89, 3) := by decide +kernel
theorem dX10_keepNow_73 : decode cX10_keepNow 73 = .ok (.iastore, 1) := by decide +kernel
theorem dX10_keepNow_74 : decode cX10_keepNow 74 = .ok (.return_, 1) := by decide +kernel
theorem dX10_back_0 : decode cX10_back 0 = .ok (.iconst 0, 1) := by decide +kernel
theorem dX10_back_1 : decode cX10_back 1 = .ok (.istore_n 2, 1) := by decide +kernel
theorem dX10_back_2 : decode cX10_back 2 = .ok (.iload_n 2, 1) := by decide +kernel
theorem dX10_back_3 : decode cX10_back 3 = .ok (.bipush 6, 2) := by decide +kernel
theorem dX10_back_5 : decode cX10_back 5 = .ok (.if_icmp .ge 36, 3) := by decide +kernel
theorem dX10_back_8 : decode cX10_back 8 = .ok (.aload_n 0, 1) := by decide +kernel
theorem dX10_back_9 : decode cX10_back 9 = .ok (.getfield 7, 3) := by decide +kernel
theorem dX10_back_12 : decode cX10_back 12 = .ok (.iload_n 2, 1) := by decide +kernel
theorem dX10_back_13 : decode cX10_back 13 = .ok (.aload_n 0, 1) := by decide +kernel
theorem dX10_back_14 : decode cX10_back 14 = .ok (.getfield 46, 3) := by decide +kernel
theorem dX10_back_17 : decode cX10_back 17 = .ok (.iload_n 2, 1) := by decide +kernel
theorem dX10_back_18 : decode cX10_back 18 = .ok (.iaload, 1) := by decide +kernel
theorem dX10_back_19 : decode cX10_back 19 = .ok (.iastore, 1) := by decide +kernel
theorem dX10_back_20 : decode cX10_back 20 = .ok (.aload_n 0, 1) := by decide +kernel
theorem dX10_back_21 : decode cX10_back 21 = .ok (.getfield 19, 3) := by decide +kernel
theorem dX10_back_24 : decode cX10_back 24 = .ok (.iload_n 2, 1) := by decide +kernel
theorem dX10_back_25 : decode cX10_back 25 = .ok (.aload_n 0, 1) := by decide +kernel
theorem dX10_back_26 : decode cX10_back 26 = .ok (.getfield 46, 3) := by decide +kernel
theorem dX10_back_29 : decode cX10_back 29 = .ok (.bipush 6, 2) := by decide +kernel
theorem dX10_back_31 : decode cX10_back 31 = .ok (.iload_n 2, 1) := by decide +kernel
theorem dX10_back_32 : decode cX10_back 32 = .ok (.iadd, 1) := by decide +kernel
theorem dX10_back_33 : decode cX10_back 33 = .ok (.iaload, 1) := by decide +kernel
theorem dX10_back_34 : decode cX10_back 34 = .ok (.iastore, 1) := by decide +kernel
theorem dX10_back_35 : decode cX10_back 35 = .ok (.iinc 2 1, 3) := by decide +kernel
theorem dX10_back_38 : decode cX10_back 38 = .ok (.goto (-36), 3) := by decide +kernel
theorem dX10_back_41 : decode cX10_back 41 = .ok (.aload_n 0, 1) := by decide +kernel
theorem dX10_back_42 : decode cX10_back 42 = .ok (.aload_n 0, 1) := by decide +kernel
theorem dX10_back_43 : decode cX10_back 43 = .ok (.getfield 46, 3) := by decide +kernel
theorem dX10_back_46 : decode cX10_back 46 = .ok (.bipush 12, 2) := by decide +kernel
theorem dX10_back_48 : decode cX10_back 48 = .ok (.iaload, 1) := by decide +kernel
theorem dX10_back_49 : decode cX10_back 49 = .ok (.putfield 98, 3) := by decide +kernel
theorem dX10_back_52 : decode cX10_back 52 = .ok (.aload_n 0, 1) := by decide +kernel
theorem dX10_back_53 : decode cX10_back 53 = .ok (.aload_n 0, 1) := by decide +kernel
theorem dX10_back_54 : decode cX10_back 54 = .ok (.getfield 46, 3) := by decide +kernel
theorem dX10_back_57 : decode cX10_back 57 = .ok (.bipush 13, 2) := by decide +kernel
theorem dX10_back_59 : decode cX10_back 59 = .ok (.iaload, 1) := by decide +kernel
theorem dX10_back_60 : decode cX10_back 60 = .ok (.putfield 117, 3) := by decide +kernel
theorem dX10_back_63 : decode cX10_back 63 = .ok (.aload_n 0, 1) := by decide +kernel
theorem dX10_back_64 : decode cX10_back 64 = .ok (.aload_n 0, 1) := by decide +kernel
theorem dX10_back_65 : decode cX10_back 65 = .ok (.getfield 46, 3) := by decide +kernel
theorem dX10_back_68 : decode cX10_back 68 = .ok (.bipush 14, 2) := by decide +kernel
theorem dX10_back_70 : decode cX10_back 70 = .ok (.iaload, 1) := by decide +kernel
theorem dX10_back_71 : decode cX10_back 71 = .ok (.putfield 89, 3) := by decide +kernel
theorem dX10_back_74 : decode cX10_back 74 = .ok (.iload_n 1, 1) := by decide +kernel
theorem dX10_back_75 : decode cX10_back 75 = .ok (.ireturn, 1) := by decide +kernel
theorem dX10_beginCount_0 : decode cX10_beginCount 0 = .ok (.aload_n 0, 1) := by decide +kernel
theorem dX10_beginCount_1 : decode cX10_beginCount 1 = .ok (.iconst 0, 1) := by decide +kernel
theorem dX10_beginCount_2 : decode cX10_beginCount 2 = .ok (.putfield 158, 3) := by decide +kernel
theorem dX10_beginCount_5 : decode cX10_beginCount 5 = .ok (.aload_n 0, 1) := by decide +kernel
theorem dX10_beginCount_6 : decode cX10_beginCount 6 = .ok (.bipush (-6), 2) := by decide +kernel
theorem dX10_beginCount_8 : decode cX10_beginCount 8 = .ok (.putfield 155, 3) := by decide +kernel
theorem dX10_beginCount_11 : decode cX10_beginCount 11 = .ok (.aload_n 0, 1) := by decide +kernel
theorem dX10_beginCount_12 : decode cX10_beginCount 12 = .ok (.bipush (-6), 2) := by decide +kernel
theorem dX10_beginCount_14 : decode cX10_beginCount 14 = .ok (.putfield 161, 3) := by decide +kernel
theorem dX10_beginCount_17 : decode cX10_beginCount 17 = .ok (.return_, 1) := by decide +kernel
theorem dX10_goDays_0 : decode cX10_goDays 0 = .ok (.aload_n 0, 1) := by decide +kernel
theorem dX10_goDays_1 : decode cX10_goDays 1 = .ok (.invokevirtual 174, 3) := by decide +kernel
theorem dX10_goDays_4 : decode cX10_goDays 4 = .ok (.aload_n 0, 1) := by decide +kernel
theorem dX10_goDays_5 : decode cX10_goDays 5 = .ok (.bipush (-6), 2) := by decide +kernel
theorem dX10_goDays_7 : decode cX10_goDays 7 = .ok (.putfield 177, 3) := by decide +kernel
theorem dX10_goDays_10 : decode cX10_goDays 10 = .ok (.aload_n 0, 1) := by decide +kernel
theorem dX10_goDays_11 : decode cX10_goDays 11 = .ok (.bipush (-6), 2) := by decide +kernel
theorem dX10_goDays_13 : decode cX10_goDays 13 = .ok (.putfield 180, 3) := by decide +kernel
theorem dX10_goDays_16 : decode cX10_goDays 16 = .ok (.iconst 0, 1) := by decide +kernel
theorem dX10_goDays_17 : decode cX10_goDays 17 = .ok (.istore_n 1, 1) := by decide +kernel
theorem dX10_goDays_18 : decode cX10_goDays 18 = .ok (.iload_n 1, 1) := by decide +kernel
theorem dX10_goDays_19 : decode cX10_goDays 19 = .ok (.aload_n 0, 1) := by decide +kernel
theorem dX10_goDays_20 : decode cX10_goDays 20 = .ok (.getfield 131, 3) := by decide +kernel
theorem dX10_goDays_23 : decode cX10_goDays 23 = .ok (.if_icmp .ge 93, 3) := by decide +kernel
theorem dX10_goDays_26 : decode cX10_goDays 26 = .ok (.aload_n 0, 1) := by decide +kernel
theorem dX10_goDays_27 : decode cX10_goDays 27 = .ok (.getfield 177, 3) := by decide +kernel
theorem dX10_goDays_30 : decode cX10_goDays 30 = .ok (.ifCond .ge 86, 3) := by decide +kernel
theorem dX10_goDays_33 : decode cX10_goDays 33 = .ok (.aload_n 0, 1) := by decide +kernel
theorem dX10_goDays_34 : decode cX10_goDays 34 = .ok (.aload_n 0, 1) := by decide +kernel
theorem dX10_goDays_35 : decode cX10_goDays 35 = .ok (.getfield 31, 3) := by decide +kernel
theorem dX10_goDays_38 : decode cX10_goDays 38 = .ok (.iload_n 1, 1) := by decide +kernel
theorem dX10_goDays_39 : decode cX10_goDays 39 = .ok (.iaload, 1) := by decide +kernel
theorem dX10_goDays_40 : decode cX10_goDays 40 = .ok (.aload_n 0, 1) := by decide +kernel
theorem dX10_goDays_41 : decode cX10_goDays 41 = .ok (.getfield 34, 3) := by decide +kernel
theorem dX10_goDays_44 : decode cX10_goDays 44 = .ok (.iload_n 1, 1) := by decide +kernel
theorem dX10_goDays_45 : decode cX10_goDays 45 = .ok (.iaload, 1) := by decide +kernel
theorem dX10_goDays_46 : decode cX10_goDays 46 = .ok (.aload_n 0, 1) := by decide +kernel
theorem dX10_goDays_47 : decode cX10_goDays 47 = .ok (.getfield 37, 3) := by decide +kernel
theorem dX10_goDays_50 : decode cX10_goDays 50 = .ok (.iload_n 1, 1) := by decide +kernel
theorem dX10_goDays_51 : decode cX10_goDays 51 = .ok (.iaload, 1) := by decide +kernel
theorem dX10_goDays_52 : decode cX10_goDays 52 = .ok (.invokevirtual 183, 3) := by decide +kernel
theorem dX10_goDays_55 : decode cX10_goDays 55 = .ok (.istore_n 2, 1) := by decide +kernel
theorem dX10_goDays_56 : decode cX10_goDays 56 = .ok (.aload_n 0, 1) := by decide +kernel
theorem dX10_goDays_57 : decode cX10_goDays 57 = .ok (.iload_n 2, 1) := by decide +kernel
theorem dX10_goDays_58 : decode cX10_goDays 58 = .ok (.ifCond .le 7, 3) := by decide +kernel
theorem dX10_goDays_61 : decode cX10_goDays 61 = .ok (.iload_n 1, 1) := by decide +kernel
theorem dX10_goDays_62 : decode cX10_goDays 62 = .ok (.goto 5, 3) := by decide +kernel
theorem dX10_goDays_65 : decode cX10_goDays 65 = .ok (.bipush (-6), 2) := by decide +kernel
theorem dX10_goDays_67 : decode cX10_goDays 67 = .ok (.putfield 177, 3) := by decide +kernel
theorem dX10_goDays_70 : decode cX10_goDays 70 = .ok (.aload_n 0, 1) := by decide +kernel
theorem dX10_goDays_71 : decode cX10_goDays 71 = .ok (.iload_n 2, 1) := by decide +kernel
theorem dX10_goDays_72 : decode cX10_goDays 72 = .ok (.ifCond .le 7, 3) := by decide +kernel
theorem dX10_goDays_75 : decode cX10_goDays 75 = .ok (.iload_n 2, 1) := by decide +kernel
theorem dX10_goDays_76 : decode cX10_goDays 76 = .ok (.goto 5, 3) := by decide +kernel
theorem dX10_goDays_79 : decode cX10_goDays 79 = .ok (.bipush (-6), 2) := by decide +kernel
theorem dX10_goDays_81 : decode cX10_goDays 81 = .ok (.putfield 180, 3) := by decide +kernel
theorem dX10_goDays_84 : decode cX10_goDays 84 = .ok (.iload_n 2, 1) := by decide +kernel
theorem dX10_goDays_85 : decode cX10_goDays 85 = .ok (.ifCond .ne 25, 3) := by decide +kernel
theorem dX10_goDays_88 : decode cX10_goDays 88 = .ok (.aload_n 0, 1) := by decide +kernel
theorem dX10_goDays_89 : decode cX10_goDays 89 = .ok (.aload_n 0, 1) := by decide +kernel
theorem dX10_goDays_90 : decode cX10_goDays 90 = .ok (.getfield 31, 3) := by decide +kernel
theorem dX10_goDays_93 : decode cX10_goDays 93 = .ok (.iload_n 1, 1) := by decide +kernel
theorem dX10_goDays_94 : decode cX10_goDays 94 = .ok (.iaload, 1) := by decide +kernel
theorem dX10_goDays_95 : decode cX10_goDays 95 = .ok (.aload_n 0, 1) := by decide +kernel
theorem dX10_goDays_96 : decode cX10_goDays 96 = .ok (.getfield 34, 3) := by decide +kernel
theorem dX10_goDays_99 : decode cX10_goDays 99 = .ok (.iload_n 1, 1) := by decide +kernel
theorem dX10_goDays_100 : decode cX10_goDays 100 = .ok (.iaload, 1) := by decide +kernel
theorem dX10_goDays_101 : decode cX10_goDays 101 = .ok (.aload_n 0, 1) := by decide +kernel
theorem dX10_goDays_102 : decode cX10_goDays 102 = .ok (.getfield 37, 3) := by decide +kernel
theorem dX10_goDays_105 : decode cX10_goDays 105 = .ok (.iload_n 1, 1) := by decide +kernel
theorem dX10_goDays_106 : decode cX10_goDays 106 = .ok (.iaload, 1) := by decide +kernel
theorem dX10_goDays_107 : decode cX10_goDays 107 = .ok (.invokevirtual 186, 3) := by decide +kernel
theorem dX10_goDays_110 : decode cX10_goDays 110 = .ok (.iinc 1 1, 3) := by decide +kernel
theorem dX10_goDays_113 : decode cX10_goDays 113 = .ok (.goto (-95), 3) := by decide +kernel
theorem dX10_goDays_116 : decode cX10_goDays 116 = .ok (.return_, 1) := by decide +kernel
theorem dX10_refusal_0 : decode cX10_refusal 0 = .ok (.aload_n 0, 1) := by decide +kernel
theorem dX10_refusal_1 : decode cX10_refusal 1 = .ok (.invokevirtual 190, 3) := by decide +kernel
theorem dX10_refusal_4 : decode cX10_refusal 4 = .ok (.aload_n 0, 1) := by decide +kernel
theorem dX10_refusal_5 : decode cX10_refusal 5 = .ok (.invokevirtual 193, 3) := by decide +kernel
theorem dX10_refusal_8 : decode cX10_refusal 8 = .ok (.ifCond .lt 6, 3) := by decide +kernel
theorem dX10_refusal_11 : decode cX10_refusal 11 = .ok (.bipush (-5), 2) := by decide +kernel
theorem dX10_refusal_13 : decode cX10_refusal 13 = .ok (.ireturn, 1) := by decide +kernel
theorem dX10_refusal_14 : decode cX10_refusal 14 = .ok (.aload_n 0, 1) := by decide +kernel
theorem dX10_refusal_15 : decode cX10_refusal 15 = .ok (.invokevirtual 196, 3) := by decide +kernel
theorem dX10_refusal_18 : decode cX10_refusal 18 = .ok (.aload_n 0, 1) := by decide +kernel
theorem dX10_refusal_19 : decode cX10_refusal 19 = .ok (.getfield 177, 3) := by decide +kernel
theorem dX10_refusal_22 : decode cX10_refusal 22 = .ok (.ifCond .lt 8, 3) := by decide +kernel
theorem dX10_refusal_25 : decode cX10_refusal 25 = .ok (.bipush (-3), 2) := by decide +kernel
theorem dX10_refusal_27 : decode cX10_refusal 27 = .ok (.goto 5, 3) := by decide +kernel
theorem dX10_refusal_30 : decode cX10_refusal 30 = .ok (.bipush (-6), 2) := by decide +kernel
theorem dX10_refusal_32 : decode cX10_refusal 32 = .ok (.ireturn, 1) := by decide +kernel
theorem dX10_judge_0 : decode cX10_judge 0 = .ok (.iload_n 1, 1) := by decide +kernel
theorem dX10_judge_1 : decode cX10_judge 1 = .ok (.i2l, 1) := by decide +kernel
theorem dX10_judge_2 : decode cX10_judge 2 = .ok (.lconst 0, 1) := by decide +kernel
theorem dX10_judge_3 : decode cX10_judge 3 = .ok (.ldc2_w 113, 3) := by decide +kernel
theorem dX10_judge_6 : decode cX10_judge 6 = .ok (.invokestatic 94, 3) := by decide +kernel
theorem dX10_judge_9 : decode cX10_judge 9 = .ok (.ifCond .ne 6, 3) := by decide +kernel
theorem dX10_judge_12 : decode cX10_judge 12 = .ok (.bipush (-2), 2) := by decide +kernel
theorem dX10_judge_14 : decode cX10_judge 14 = .ok (.ireturn, 1) := by decide +kernel
theorem dX10_judge_15 : decode cX10_judge 15 = .ok (.aload_n 0, 1) := by decide +kernel
theorem dX10_judge_16 : decode cX10_judge 16 = .ok (.aload_n 0, 1) := by decide +kernel
theorem dX10_judge_17 : decode cX10_judge 17 = .ok (.invokevirtual 199, 3) := by decide +kernel
theorem dX10_judge_20 : decode cX10_judge 20 = .ok (.invokevirtual 202, 3) := by decide +kernel
theorem dX10_judge_23 : decode cX10_judge 23 = .ok (.istore_n 2, 1) := by decide +kernel
theorem dX10_judge_24 : decode cX10_judge 24 = .ok (.iload_n 2, 1) := by decide +kernel
theorem dX10_judge_25 : decode cX10_judge 25 = .ok (.bipush (-5), 2) := by decide +kernel
theorem dX10_judge_27 : decode cX10_judge 27 = .ok (.if_icmp .eq 14, 3) := by decide +kernel
theorem dX10_judge_30 : decode cX10_judge 30 = .ok (.iload_n 1, 1) := by decide +kernel
theorem dX10_judge_31 : decode cX10_judge 31 = .ok (.iconst 1, 1) := by decide +kernel
theorem dX10_judge_32 : decode cX10_judge 32 = .ok (.if_icmp .le 11, 3) := by decide +kernel
theorem dX10_judge_35 : decode cX10_judge 35 = .ok (.iload_n 2, 1) := by decide +kernel
theorem dX10_judge_36 : decode cX10_judge 36 = .ok (.bipush (-3), 2) := by decide +kernel
theorem dX10_judge_38 : decode cX10_judge 38 = .ok (.if_icmp .ne 5, 3) := by decide +kernel
theorem dX10_judge_41 : decode cX10_judge 41 = .ok (.iload_n 2, 1) := by decide +kernel
theorem dX10_judge_42 : decode cX10_judge 42 = .ok (.ireturn, 1) := by decide +kernel
theorem dX10_judge_43 : decode cX10_judge 43 = .ok (.iload_n 1, 1) := by decide +kernel
theorem dX10_judge_44 : decode cX10_judge 44 = .ok (.ifCond .ne 10, 3) := by decide +kernel
theorem dX10_judge_47 : decode cX10_judge 47 = .ok (.aload_n 0, 1) := by decide +kernel
theorem dX10_judge_48 : decode cX10_judge 48 = .ok (.getfield 177, 3) := by decide +kernel
theorem dX10_judge_51 : decode cX10_judge 51 = .ok (.goto 19, 3) := by decide +kernel
theorem dX10_judge_54 : decode cX10_judge 54 = .ok (.iload_n 1, 1) := by decide +kernel
theorem dX10_judge_55 : decode cX10_judge 55 = .ok (.iconst 1, 1) := by decide +kernel
theorem dX10_judge_56 : decode cX10_judge 56 = .ok (.if_icmp .ne 10, 3) := by decide +kernel
theorem dX10_judge_59 : decode cX10_judge 59 = .ok (.aload_n 0, 1) := by decide +kernel
theorem dX10_judge_60 : decode cX10_judge 60 = .ok (.getfield 180, 3) := by decide +kernel
theorem dX10_judge_63 : decode cX10_judge 63 = .ok (.goto 7, 3) := by decide +kernel
theorem dX10_judge_66 : decode cX10_judge 66 = .ok (.aload_n 0, 1) := by decide +kernel
theorem dX10_judge_67 : decode cX10_judge 67 = .ok (.getfield 158, 3) := by decide +kernel
theorem dX10_judge_70 : decode cX10_judge 70 = .ok (.ireturn, 1) := by decide +kernel
theorem dX10_behind_0 : decode cX10_behind 0 = .ok (.iload_n 2, 1) := by decide +kernel
theorem dX10_behind_1 : decode cX10_behind 1 = .ok (.i2l, 1) := by decide +kernel
theorem dX10_behind_2 : decode cX10_behind 2 = .ok (.lconst 0, 1) := by decide +kernel
theorem dX10_behind_3 : decode cX10_behind 3 = .ok (.lconst 1, 1) := by decide +kernel
theorem dX10_behind_4 : decode cX10_behind 4 = .ok (.invokestatic 94, 3) := by decide +kernel
theorem dX10_behind_7 : decode cX10_behind 7 = .ok (.ifCond .ne 6, 3) := by decide +kernel
theorem dX10_behind_10 : decode cX10_behind 10 = .ok (.bipush (-2), 2) := by decide +kernel
theorem dX10_behind_12 : decode cX10_behind 12 = .ok (.ireturn, 1) := by decide +kernel
theorem dX10_behind_13 : decode cX10_behind 13 = .ok (.aload_n 0, 1) := by decide +kernel
theorem dX10_behind_14 : decode cX10_behind 14 = .ok (.invokevirtual 199, 3) := by decide +kernel
theorem dX10_behind_17 : decode cX10_behind 17 = .ok (.istore_n 3, 1) := by decide +kernel
theorem dX10_behind_18 : decode cX10_behind 18 = .ok (.iload_n 3, 1) := by decide +kernel
theorem dX10_behind_19 : decode cX10_behind 19 = .ok (.bipush (-6), 2) := by decide +kernel
theorem dX10_behind_21 : decode cX10_behind 21 = .ok (.if_icmp .ne 15, 3) := by decide +kernel
theorem dX10_behind_24 : decode cX10_behind 24 = .ok (.aload_n 0, 1) := by decide +kernel
theorem dX10_behind_25 : decode cX10_behind 25 = .ok (.iload_n 1, 1) := by decide +kernel
theorem dX10_behind_26 : decode cX10_behind 26 = .ok (.invokevirtual 109, 3) := by decide +kernel
theorem dX10_behind_29 : decode cX10_behind 29 = .ok (.ifCond .eq 7, 3) := by decide +kernel
theorem dX10_behind_32 : decode cX10_behind 32 = .ok (.iconst 1, 1) := by decide +kernel
theorem dX10_behind_33 : decode cX10_behind 33 = .ok (.goto 4, 3) := by decide +kernel
theorem dX10_behind_36 : decode cX10_behind 36 = .ok (.iconst 0, 1) := by decide +kernel
theorem dX10_behind_37 : decode cX10_behind 37 = .ok (.istore 4, 2) := by decide +kernel
theorem dX10_behind_39 : decode cX10_behind 39 = .ok (.aload_n 0, 1) := by decide +kernel
theorem dX10_behind_40 : decode cX10_behind 40 = .ok (.iload_n 3, 1) := by decide +kernel
theorem dX10_behind_41 : decode cX10_behind 41 = .ok (.bipush (-6), 2) := by decide +kernel
theorem dX10_behind_43 : decode cX10_behind 43 = .ok (.if_icmp .eq 7, 3) := by decide +kernel
theorem dX10_behind_46 : decode cX10_behind 46 = .ok (.iload_n 3, 1) := by decide +kernel
theorem dX10_behind_47 : decode cX10_behind 47 = .ok (.goto 31, 3) := by decide +kernel
theorem dX10_behind_50 : decode cX10_behind 50 = .ok (.iload 4, 2) := by decide +kernel
theorem dX10_behind_52 : decode cX10_behind 52 = .ok (.ifCond .ne 7, 3) := by decide +kernel
theorem dX10_behind_55 : decode cX10_behind 55 = .ok (.iconst (-1), 1) := by decide +kernel
theorem dX10_behind_56 : decode cX10_behind 56 = .ok (.goto 22, 3) := by decide +kernel
theorem dX10_behind_59 : decode cX10_behind 59 = .ok (.iload_n 2, 1) := by decide +kernel
theorem dX10_behind_60 : decode cX10_behind 60 = .ok (.ifCond .ne 12, 3) := by decide +kernel
theorem dX10_behind_63 : decode cX10_behind 63 = .ok (.aload_n 0, 1) := by decide +kernel
theorem dX10_behind_64 : decode cX10_behind 64 = .ok (.getfield 7, 3) := by decide +kernel
theorem dX10_behind_67 : decode cX10_behind 67 = .ok (.iload_n 1, 1) := by decide +kernel
theorem dX10_behind_68 : decode cX10_behind 68 = .ok (.iaload, 1) := by decide +kernel
theorem dX10_behind_69 : decode cX10_behind 69 = .ok (.goto 9, 3) := by decide +kernel
theorem dX10_behind_72 : decode cX10_behind 72 = .ok (.aload_n 0, 1) := by decide +kernel
theorem dX10_behind_73 : decode cX10_behind 73 = .ok (.getfield 19, 3) := by decide +kernel
theorem dX10_behind_76 : decode cX10_behind 76 = .ok (.iload_n 1, 1) := by decide +kernel
theorem dX10_behind_77 : decode cX10_behind 77 = .ok (.iaload, 1) := by decide +kernel
theorem dX10_behind_78 : decode cX10_behind 78 = .ok (.invokevirtual 202, 3) := by decide +kernel
theorem dX10_behind_81 : decode cX10_behind 81 = .ok (.ireturn, 1) := by decide +kernel
theorem b_X10_one_0 {l : Launch} {z d : Nat} {X : jX} {M : Nat → Int → Int} {Q : Option jV → jM → Prop} {x1 : Int} {x2 : Int} {x3 : Int} {x4 : Int}  (s1 : 0 ≤ x1 ∧ x1 ≤ 5 → 0 ≤ x2 ∧ x2 ≤ 99 → 1 ≤ x3 ∧ x3 ≤ 9 → 0 ≤ x4 ∧ x4 ≤ x2 → 0 ≤ x1) (s2 : 0 ≤ x1 ∧ x1 ≤ 5 → 0 ≤ x2 ∧ x2 ≤ 99 → 1 ≤ x3 ∧ x3 ≤ 9 → 0 ≤ x4 ∧ x4 ≤ x2 → x1 < 6) (s3 : 0 ≤ x1 ∧ x1 ≤ 5 → 0 ≤ x2 ∧ x2 ≤ 99 → 1 ≤ x3 ∧ x3 ≤ 9 → 0 ≤ x4 ∧ x4 ≤ x2 → 0 ≤ ((jupd (jupd (jupd (jupd (jupd M 96 0 (jor (M 96 0) (jshl 1 x1))) 97 x1 x2) 98 x1 x3) 99 x1 x4) 100 x1 0) 96 0) ∧ ((jupd (jupd (jupd (jupd (jupd M 96 0 (jor (M 96 0) (jshl 1 x1))) 97 x1 x2) 98 x1 x3) 99 x1 x4) 100 x1 0) 96 0) < 128) (k1 : 0 ≤ x1 ∧ x1 ≤ 5 → 0 ≤ x2 ∧ x2 ≤ 99 → 1 ≤ x3 ∧ x3 ≤ 9 → 0 ≤ x4 ∧ x4 ≤ x2 → Q (some (jI (popc ((jupd (jupd (jupd (jupd (jupd M 96 0 (jor (M 96 0) (jshl 1 x1))) 97 x1 x2) 98 x1 x3) 99 x1 x4) 100 x1 0) 96 0)))) (jG, (jupd (jupd (jupd (jupd (jupd M 96 0 (jor (M 96 0) (jshl 1 x1))) 97 x1 x2) 98 x1 x3) 99 x1 x4) 100 x1 0))) (k2 : 0 ≤ x1 ∧ x1 ≤ 5 → 0 ≤ x2 ∧ x2 ≤ 99 → 1 ≤ x3 ∧ x3 ≤ 9 → ¬ (0 ≤ x4 ∧ x4 ≤ x2) → Q (some (jI (-2))) (jG, M)) (k3 : 0 ≤ x1 ∧ x1 ≤ 5 → 0 ≤ x2 ∧ x2 ≤ 99 → ¬ (1 ≤ x3 ∧ x3 ≤ 9) → Q (some (jI (-2))) (jG, M)) (k4 : 0 ≤ x1 ∧ x1 ≤ 5 → ¬ (0 ≤ x2 ∧ x2 ≤ 99) → Q (some (jI (-2))) (jG, M)) (k5 : ¬ (0 ≤ x1 ∧ x1 ≤ 5) → Q (some (jI (-1))) (jG, M)) : J l z X (d + 1) mX10_one (0, 0) 0 [jR 96, jI x1, jI x2, jI x3, jI x4] [] (jG, M) Q :=
  (J_iload_n dX10_one_0 rfl (J_i2l dX10_one_1 (J_lconst dX10_one_2 jlc_0 jlv_0 (J_ldc2 dX10_one_3 (lw_X10_92) lcl_X10_92 rfl (J_callS (a1 := (0, 0)) (a2 := (0, 0)) (mm' := mX10_in) (S := []) [jL x1, jL 0, jL 5] md_X10_in is_X10_in dX10_one_6 wm_X10_94 rfl rfl (Nat.le_of_ble_eq_true rfl) (Nat.le_of_ble_eq_true rfl) rfl (c_X10_in   (fun c1 => (J_if_ne dX10_one_9 (tgt := 14) (by decide) (fun _ => (J_iload_n dX10_one_14 rfl (J_i2l dX10_one_15 (J_lconst dX10_one_16 jlc_0 jlv_0 (J_ldc2 dX10_one_17 (lw_X10_101) lcl_X10_101 rfl (J_callS (a1 := (0, 0)) (a2 := (0, 0)) (mm' := mX10_in) (S := []) [jL x2, jL 0, jL 99] md_X10_in is_X10_in dX10_one_20 wm_X10_94 rfl rfl (Nat.le_of_ble_eq_true rfl) (Nat.le_of_ble_eq_true rfl) rfl (c_X10_in   (fun c2 => (J_if_eq dX10_one_23 (tgt := 50) (by decide) (fun c => absurd c (by decide)) (fun _ => (J_iload_n dX10_one_26 rfl (J_i2l dX10_one_27 (J_lconst dX10_one_28 jlc_1 jlv_1 (J_ldc2 dX10_one_29 (lw_X10_103) lcl_X10_103 rfl (J_callS (a1 := (0, 0)) (a2 := (0, 0)) (mm' := mX10_in) (S := []) [jL x3, jL 1, jL 9] md_X10_in is_X10_in dX10_one_32 wm_X10_94 rfl rfl (Nat.le_of_ble_eq_true rfl) (Nat.le_of_ble_eq_true rfl) rfl (c_X10_in   (fun c3 => (J_if_eq dX10_one_35 (tgt := 50) (by decide) (fun c => absurd c (by decide)) (fun _ => (J_iload dX10_one_38 rfl (J_i2l dX10_one_40 (J_lconst dX10_one_41 jlc_0 jlv_0 (J_iload_n dX10_one_42 rfl (J_i2l dX10_one_43 (J_callS (a1 := (0, 0)) (a2 := (0, 0)) (mm' := mX10_in) (S := []) [jL x4, jL 0, jL x2] md_X10_in is_X10_in dX10_one_44 wm_X10_94 rfl rfl (Nat.le_of_ble_eq_true rfl) (Nat.le_of_ble_eq_true rfl) rfl (c_X10_in   (fun c4 => (J_if_ne dX10_one_47 (tgt := 53) (by decide) (fun _ => (J_aload_n dX10_one_53 rfl (J_dupR dX10_one_54 (J_getI (k := 0) (kz := 0) jcl_X10 dX10_one_55 wf_X10_98 g_96 (Nat.le_of_ble_eq_true rfl) rfl rfl (J_iconst dX10_one_58 jc_1 (J_iload_n dX10_one_59 rfl (J_ishl dX10_one_60 (J_ior dX10_one_61 (J_putI (k := 0) (kz := 0) jcl_X10 dX10_one_62 wf_X10_98 g_96 (Nat.le_of_ble_eq_true rfl) rfl rfl rfl (J_aload_n dX10_one_65 rfl (J_getR (k := 4) jcl_X10 dX10_one_66 wf_X10_7 g_96 (Nat.le_of_ble_eq_true rfl) rfl rfl (J_iload_n dX10_one_69 rfl (J_iload_n dX10_one_70 rfl (J_iast dX10_one_71 g_97 (s1 c1 c2 c3 c4) (s2 c1 c2 c3 c4) (J_aload_n dX10_one_72 rfl (J_getR (k := 5) jcl_X10 dX10_one_73 wf_X10_13 g_96 (Nat.le_of_ble_eq_true rfl) rfl rfl (J_iload_n dX10_one_76 rfl (J_iload_n dX10_one_77 rfl (J_iast dX10_one_78 g_98 (s1 c1 c2 c3 c4) (s2 c1 c2 c3 c4) (J_aload_n dX10_one_79 rfl (J_getR (k := 6) jcl_X10 dX10_one_80 wf_X10_16 g_96 (Nat.le_of_ble_eq_true rfl) rfl rfl (J_iload_n dX10_one_83 rfl (J_iload dX10_one_84 rfl (J_iast dX10_one_86 g_99 (s1 c1 c2 c3 c4) (s2 c1 c2 c3 c4) (J_aload_n dX10_one_87 rfl (J_getR (k := 7) jcl_X10 dX10_one_88 wf_X10_19 g_96 (Nat.le_of_ble_eq_true rfl) rfl rfl (J_iload_n dX10_one_91 rfl (J_iconst dX10_one_92 jc_0 (J_iast dX10_one_93 g_100 (s1 c1 c2 c3 c4) (s2 c1 c2 c3 c4) (J_aload_n dX10_one_94 rfl (J_getI (k := 0) (kz := 0) jcl_X10 dX10_one_95 wf_X10_98 g_96 (Nat.le_of_ble_eq_true rfl) rfl rfl (J_callS (a1 := (0, 0)) (a2 := (0, 0)) (mm' := mX10_ones) (S := []) [jI ((jupd (jupd (jupd (jupd (jupd M 96 0 (jor (M 96 0) (jshl 1 x1))) 97 x1 x2) 98 x1 x3) 99 x1 x4) 100 x1 0) 96 0)] md_X10_ones is_X10_ones dX10_one_98 wm_X10_105 rfl rfl (Nat.le_of_ble_eq_true rfl) (Nat.le_of_ble_eq_true rfl) rfl (c_X10_ones  (s3 c1 c2 c3 c4) (J_iret dX10_one_101 rfl (k1 c1 c2 c3 c4))))))))))))))))))))))))))))))))))) (fun c => absurd c (by decide)))) (fun c4 => (J_if_ne dX10_one_47 (tgt := 53) (by decide) (fun c => absurd c (by decide)) (fun _ => (J_bipush dX10_one_50 jc_m2 jb_m2 (J_iret dX10_one_52 rfl (k2 c1 c2 c3 c4)))))))))))))))) (fun c3 => (J_if_eq dX10_one_35 (tgt := 50) (by decide) (fun _ => (J_bipush dX10_one_50 jc_m2 jb_m2 (J_iret dX10_one_52 rfl (k3 c1 c2 c3)))) (fun c => absurd c (by decide))))))))))))) (fun c2 => (J_if_eq dX10_one_23 (tgt := 50) (by decide) (fun _ => (J_bipush dX10_one_50 jc_m2 jb_m2 (J_iret dX10_one_52 rfl (k4 c1 c2)))) (fun c => absurd c (by decide))))))))))) (fun c => absurd c (by decide)))) (fun c1 => (J_if_ne dX10_one_9 (tgt := 14) (by decide) (fun c => absurd c (by decide)) (fun _ => (J_iconst dX10_one_12 jc_m1 (J_iret dX10_one_13 rfl (k5 c1))))))))))))
theorem b_X10_leave_0 {l : Launch} {z d : Nat} {X : jX} {M : Nat → Int → Int} {Q : Option jV → jM → Prop} {x1 : Int}  (s1 : hasB (M 96 0) x1 = true → 0 ≤ ((jupd M 96 0 (jand (M 96 0) (jxor (jshl 1 x1) (-1)))) 96 0) ∧ ((jupd M 96 0 (jand (M 96 0) (jxor (jshl 1 x1) (-1)))) 96 0) < 128) (k1 : hasB (M 96 0) x1 = true → Q (some (jI (popc ((jupd M 96 0 (jand (M 96 0) (jxor (jshl 1 x1) (-1)))) 96 0)))) (jG, (jupd M 96 0 (jand (M 96 0) (jxor (jshl 1 x1) (-1)))))) (k2 : hasB (M 96 0) x1 = false → Q (some (jI (-1))) (jG, M)) : J l z X (d + 2) mX10_leave (0, 0) 0 [jR 96, jI x1] [] (jG, M) Q :=
  (J_aload_n dX10_leave_0 rfl (J_iload_n dX10_leave_1 rfl (J_callV (a1 := (0, 0)) (a2 := (0, 0)) (mm' := mX10_isOne) (S := []) [jI x1] md_X10_isOne im_X10_isOne se_X10_isOne dX10_leave_2 wm_X10_109 jcl_X10.1 rfl g_96 rfl rfl (Nat.le_of_ble_eq_true rfl) (Nat.le_of_ble_eq_true rfl) rfl (c_X10_isOne   (fun c1 => (J_if_ne dX10_leave_5 (tgt := 10) (by decide) (fun _ => (J_aload_n dX10_leave_10 rfl (J_dupR dX10_leave_11 (J_getI (k := 0) (kz := 0) jcl_X10 dX10_leave_12 wf_X10_98 g_96 (Nat.le_of_ble_eq_true rfl) rfl rfl (J_iconst dX10_leave_15 jc_1 (J_iload_n dX10_leave_16 rfl (J_ishl dX10_leave_17 (J_iconst dX10_leave_18 jc_m1 (J_ixor dX10_leave_19 (J_iand dX10_leave_20 (J_putI (k := 0) (kz := 0) jcl_X10 dX10_leave_21 wf_X10_98 g_96 (Nat.le_of_ble_eq_true rfl) rfl rfl rfl (J_aload_n dX10_leave_24 rfl (J_getI (k := 0) (kz := 0) jcl_X10 dX10_leave_25 wf_X10_98 g_96 (Nat.le_of_ble_eq_true rfl) rfl rfl (J_callS (a1 := (0, 0)) (a2 := (0, 0)) (mm' := mX10_ones) (S := []) [jI ((jupd M 96 0 (jand (M 96 0) (jxor (jshl 1 x1) (-1)))) 96 0)] md_X10_ones is_X10_ones dX10_leave_28 wm_X10_105 rfl rfl (Nat.le_of_ble_eq_true rfl) (Nat.le_of_ble_eq_true rfl) rfl (c_X10_ones  (s1 c1) (J_iret dX10_leave_31 rfl (k1 c1))))))))))))))))) (fun c => absurd c (by decide)))) (fun c1 => (J_if_ne dX10_leave_5 (tgt := 10) (by decide) (fun c => absurd c (by decide)) (fun _ => (J_iconst dX10_leave_8 jc_m1 (J_iret dX10_leave_9 rfl (k2 c1))))))))))
theorem b_X10_set_0 {l : Launch} {z d : Nat} {X : jX} {M : Nat → Int → Int} {Q : Option jV → jM → Prop} {x1 : Int} {x2 : Int}   (k1 : 0 ≤ x1 ∧ x1 ≤ 2 → x1 ≠ 0 → x1 ≠ 1 → J l z X (d + 1) mX10_set (0, 0) 37 [jR 96, jI x1, jI x2, jN] [jL 1, jL 0, jL x2] (jG, M) Q) (k2 : 0 ≤ x1 ∧ x1 ≤ 2 → x1 ≠ 0 → x1 = 1 → J l z X (d + 1) mX10_set (0, 0) 37 [jR 96, jI x1, jI x2, jN] [jL 40, jL 0, jL x2] (jG, M) Q) (k3 : 0 ≤ x1 ∧ x1 ≤ 2 → x1 = 0 → J l z X (d + 1) mX10_set (0, 0) 37 [jR 96, jI x1, jI x2, jN] [jL 99, jL 0, jL x2] (jG, M) Q) (k4 : ¬ (0 ≤ x1 ∧ x1 ≤ 2) → Q (some (jI (-2))) (jG, M)) : J l z X (d + 1) mX10_set (0, 0) 0 [jR 96, jI x1, jI x2, jN] [] (jG, M) Q :=
  (J_iload_n dX10_set_0 rfl (J_i2l dX10_set_1 (J_lconst dX10_set_2 jlc_0 jlv_0 (J_ldc2 dX10_set_3 (lw_X10_113) lcl_X10_113 rfl (J_callS (a1 := (0, 0)) (a2 := (0, 0)) (mm' := mX10_in) (S := []) [jL x1, jL 0, jL 2] md_X10_in is_X10_in dX10_set_6 wm_X10_94 rfl rfl (Nat.le_of_ble_eq_true rfl) (Nat.le_of_ble_eq_true rfl) rfl (c_X10_in   (fun c1 => (J_if_eq dX10_set_9 (tgt := 43) (by decide) (fun c => absurd c (by decide)) (fun _ => (J_iload_n dX10_set_12 rfl (J_i2l dX10_set_13 (J_lconst dX10_set_14 jlc_0 jlv_0 (J_iload_n dX10_set_15 rfl (J_if_ne dX10_set_16 (tgt := 25) (by decide) (fun c2 => (J_iload_n dX10_set_25 rfl (J_iconst dX10_set_26 jc_1 (J_icmp_ne dX10_set_27 (tgt := 36) (by decide) (fun c3 => (J_lconst dX10_set_36 jlc_1 jlv_1 (k1 c1 c2 c3))) (fun c3 => (J_ldc2 dX10_set_30 (lw_X10_115) lcl_X10_115 rfl (J_goto dX10_set_33 (tgt := 37) (by decide) (k2 c1 c2 c3)))))))) (fun c2 => (J_ldc2 dX10_set_19 (lw_X10_101) lcl_X10_101 rfl (J_goto dX10_set_22 (tgt := 37) (by decide) (k3 c1 c2)))))))))))) (fun c1 => (J_if_eq dX10_set_9 (tgt := 43) (by decide) (fun _ => (J_bipush dX10_set_43 jc_m2 jb_m2 (J_iret dX10_set_45 rfl (k4 c1)))) (fun c => absurd c (by decide))))))))))
theorem b_X10_set_37 {l : Launch} {z d : Nat} {X : jX} {M : Nat → Int → Int} {Q : Option jV → jM → Prop} {x1 : Int} {x2 : Int} {t0 : Int} {t1 : Int} {t2 : Int}   (k1 : t1 ≤ t0 ∧ t0 ≤ t2 → x1 ≠ 0 → x1 ≠ 1 → J l z X (d + 1) mX10_set (0, 0) 73 [jR 96, jI x1, jI x2, jN] [jI (M 96 3)] (jG, M) Q) (k2 : t1 ≤ t0 ∧ t0 ≤ t2 → x1 ≠ 0 → x1 = 1 → J l z X (d + 1) mX10_set (0, 0) 73 [jR 96, jI x1, jI x2, jN] [jI (M 96 2)] (jG, M) Q) (k3 : t1 ≤ t0 ∧ t0 ≤ t2 → x1 = 0 → J l z X (d + 1) mX10_set (0, 0) 73 [jR 96, jI x1, jI x2, jN] [jI (M 96 1)] (jG, M) Q) (k4 : ¬ (t1 ≤ t0 ∧ t0 ≤ t2) → Q (some (jI (-2))) (jG, M)) : J l z X (d + 1) mX10_set (0, 0) 37 [jR 96, jI x1, jI x2, jN] [jL t2, jL t1, jL t0] (jG, M) Q :=
  (J_callS (a1 := (0, 0)) (a2 := (0, 0)) (mm' := mX10_in) (S := []) [jL t0, jL t1, jL t2] md_X10_in is_X10_in dX10_set_37 wm_X10_94 rfl rfl (Nat.le_of_ble_eq_true rfl) (Nat.le_of_ble_eq_true rfl) rfl (c_X10_in   (fun c1 => (J_if_ne dX10_set_40 (tgt := 46) (by decide) (fun _ => (J_iload_n dX10_set_46 rfl (J_if_ne dX10_set_47 (tgt := 57) (by decide) (fun c2 => (J_iload_n dX10_set_57 rfl (J_iconst dX10_set_58 jc_1 (J_icmp_ne dX10_set_59 (tgt := 69) (by decide) (fun c3 => (J_aload_n dX10_set_69 rfl (J_getI (k := 3) (kz := 3) jcl_X10 dX10_set_70 wf_X10_89 g_96 (Nat.le_of_ble_eq_true rfl) rfl rfl (k1 c1 c2 c3)))) (fun c3 => (J_aload_n dX10_set_62 rfl (J_getI (k := 2) (kz := 2) jcl_X10 dX10_set_63 wf_X10_85 g_96 (Nat.le_of_ble_eq_true rfl) rfl rfl (J_goto dX10_set_66 (tgt := 73) (by decide) (k2 c1 c2 c3))))))))) (fun c2 => (J_aload_n dX10_set_50 rfl (J_getI (k := 1) (kz := 1) jcl_X10 dX10_set_51 wf_X10_117 g_96 (Nat.le_of_ble_eq_true rfl) rfl rfl (J_goto dX10_set_54 (tgt := 73) (by decide) (k3 c1 c2)))))))) (fun c => absurd c (by decide)))) (fun c1 => (J_if_ne dX10_set_40 (tgt := 46) (by decide) (fun c => absurd c (by decide)) (fun _ => (J_bipush dX10_set_43 jc_m2 jb_m2 (J_iret dX10_set_45 rfl (k4 c1))))))))
theorem b_X10_set_73 {l : Launch} {z d : Nat} {X : jX} {M : Nat → Int → Int} {Q : Option jV → jM → Prop} {x1 : Int} {x2 : Int} {t0 : Int}   (k1 : x1 ≠ 0 → J l z X (d + 1) mX10_set (0, 0) 87 [jR 96, jI x1, jI x2, jI t0] [jI (M 96 1), jR 96] (jG, M) Q) (k2 : x1 = 0 → J l z X (d + 1) mX10_set (0, 0) 87 [jR 96, jI x1, jI x2, jI t0] [jI x2, jR 96] (jG, M) Q) : J l z X (d + 1) mX10_set (0, 0) 73 [jR 96, jI x1, jI x2, jN] [jI t0] (jG, M) Q :=
  (J_istore_n dX10_set_73 (Nat.le_of_ble_eq_true rfl) (J_aload_n dX10_set_74 rfl (J_iload_n dX10_set_75 rfl (J_if_ne dX10_set_76 (tgt := 83) (by decide) (fun c1 => (J_aload_n dX10_set_83 rfl (J_getI (k := 1) (kz := 1) jcl_X10 dX10_set_84 wf_X10_117 g_96 (Nat.le_of_ble_eq_true rfl) rfl rfl (k1 c1)))) (fun c1 => (J_iload_n dX10_set_79 rfl (J_goto dX10_set_80 (tgt := 87) (by decide) (k2 c1))))))))
theorem b_X10_set_87 {l : Launch} {z d : Nat} {X : jX} {M : Nat → Int → Int} {Q : Option jV → jM → Prop} {x1 : Int} {x2 : Int} {x3 : Int} {t1 : Int}   (k1 : x1 ≠ 1 → J l z X (d + 1) mX10_set (0, 0) 104 [jR 96, jI x1, jI x2, jI x3] [jI ((jupd M 96 1 t1) 96 2), jR 96] (jG, (jupd M 96 1 t1)) Q) (k2 : x1 = 1 → J l z X (d + 1) mX10_set (0, 0) 104 [jR 96, jI x1, jI x2, jI x3] [jI x2, jR 96] (jG, (jupd M 96 1 t1)) Q) : J l z X (d + 1) mX10_set (0, 0) 87 [jR 96, jI x1, jI x2, jI x3] [jI t1, jR 96] (jG, M) Q :=
  (J_putI (k := 1) (kz := 1) jcl_X10 dX10_set_87 wf_X10_117 g_96 (Nat.le_of_ble_eq_true rfl) rfl rfl rfl (J_aload_n dX10_set_90 rfl (J_iload_n dX10_set_91 rfl (J_iconst dX10_set_92 jc_1 (J_icmp_ne dX10_set_93 (tgt := 100) (by decide) (fun c1 => (J_aload_n dX10_set_100 rfl (J_getI (k := 2) (kz := 2) jcl_X10 dX10_set_101 wf_X10_85 g_96 (Nat.le_of_ble_eq_true rfl) rfl rfl (k1 c1)))) (fun c1 => (J_iload_n dX10_set_96 rfl (J_goto dX10_set_97 (tgt := 104) (by decide) (k2 c1)))))))))
theorem b_X10_set_104 {l : Launch} {z d : Nat} {X : jX} {M : Nat → Int → Int} {Q : Option jV → jM → Prop} {x1 : Int} {x2 : Int} {x3 : Int} {t1 : Int}   (k1 : x1 ≠ 2 → Q (some (jI x3)) (jG, (jupd (jupd M 96 2 t1) 96 3 ((jupd M 96 2 t1) 96 3)))) (k2 : x1 = 2 → Q (some (jI x3)) (jG, (jupd (jupd M 96 2 t1) 96 3 x2))) : J l z X (d + 1) mX10_set (0, 0) 104 [jR 96, jI x1, jI x2, jI x3] [jI t1, jR 96] (jG, M) Q :=
  (J_putI (k := 2) (kz := 2) jcl_X10 dX10_set_104 wf_X10_85 g_96 (Nat.le_of_ble_eq_true rfl) rfl rfl rfl (J_aload_n dX10_set_107 rfl (J_iload_n dX10_set_108 rfl (J_iconst dX10_set_109 jc_2 (J_icmp_ne dX10_set_110 (tgt := 117) (by decide) (fun c1 => (J_aload_n dX10_set_117 rfl (J_getI (k := 3) (kz := 3) jcl_X10 dX10_set_118 wf_X10_89 g_96 (Nat.le_of_ble_eq_true rfl) rfl rfl (J_putI (k := 3) (kz := 3) jcl_X10 dX10_set_121 wf_X10_89 g_96 (Nat.le_of_ble_eq_true rfl) rfl rfl rfl (J_iload_n dX10_set_124 rfl (J_iret dX10_set_125 rfl (k1 c1))))))) (fun c1 => (J_iload_n dX10_set_113 rfl (J_goto dX10_set_114 (tgt := 121) (by decide) (J_putI (k := 3) (kz := 3) jcl_X10 dX10_set_121 wf_X10_89 g_96 (Nat.le_of_ble_eq_true rfl) rfl rfl rfl (J_iload_n dX10_set_124 rfl (J_iret dX10_set_125 rfl (k2 c1))))))))))))
theorem b_X10_say_0 {l : Launch} {z d : Nat} {X : jX} {M : Nat → Int → Int} {Q : Option jV → jM → Prop} {x1 : Int}  (s1 : 33 ≤ x1 ∧ x1 ≤ 126 → (M 96 12) ≠ 60 → 0 ≤ (M 96 12)) (s2 : 33 ≤ x1 ∧ x1 ≤ 126 → (M 96 12) ≠ 60 → (M 96 12) < 60) (s3 : 33 ≤ x1 ∧ x1 ≤ 126 → (M 96 12) ≠ 60 → jIn (((jupd M 103 (M 96 12) x1) 96 12) + 1)) (k1 : 33 ≤ x1 ∧ x1 ≤ 126 → (M 96 12) ≠ 60 → Q (some (jI ((jupd (jupd M 103 (M 96 12) x1) 96 12 (((jupd M 103 (M 96 12) x1) 96 12) + 1)) 96 12))) (jG, (jupd (jupd M 103 (M 96 12) x1) 96 12 (((jupd M 103 (M 96 12) x1) 96 12) + 1)))) (k2 : 33 ≤ x1 ∧ x1 ≤ 126 → (M 96 12) = 60 → Q (some (jI (-4))) (jG, M)) (k3 : ¬ (33 ≤ x1 ∧ x1 ≤ 126) → Q (some (jI (-2))) (jG, M)) : J l z X (d + 1) mX10_say (0, 0) 0 [jR 96, jI x1] [] (jG, M) Q :=
  (J_iload_n dX10_say_0 rfl (J_i2l dX10_say_1 (J_ldc2 dX10_say_2 (lw_X10_120) lcl_X10_120 rfl (J_ldc2 dX10_say_5 (lw_X10_122) lcl_X10_122 rfl (J_callS (a1 := (0, 0)) (a2 := (0, 0)) (mm' := mX10_in) (S := []) [jL x1, jL 33, jL 126] md_X10_in is_X10_in dX10_say_8 wm_X10_94 rfl rfl (Nat.le_of_ble_eq_true rfl) (Nat.le_of_ble_eq_true rfl) rfl (c_X10_in   (fun c1 => (J_if_ne dX10_say_11 (tgt := 17) (by decide) (fun _ => (J_aload_n dX10_say_17 rfl (J_getI (k := 12) (kz := 12) jcl_X10 dX10_say_18 wf_X10_124 g_96 (Nat.le_of_ble_eq_true rfl) rfl rfl (J_bipush dX10_say_21 jc_60 jb_60 (J_icmp_ne dX10_say_23 (tgt := 29) (by decide) (fun c2 => (J_aload_n dX10_say_29 rfl (J_getR (k := 11) jcl_X10 dX10_say_30 wf_X10_28 g_96 (Nat.le_of_ble_eq_true rfl) rfl rfl (J_aload_n dX10_say_33 rfl (J_getI (k := 12) (kz := 12) jcl_X10 dX10_say_34 wf_X10_124 g_96 (Nat.le_of_ble_eq_true rfl) rfl rfl (J_iload_n dX10_say_37 rfl (J_iast dX10_say_38 g_103 (s1 c1 c2) (s2 c1 c2) (J_aload_n dX10_say_39 rfl (J_dupR dX10_say_40 (J_getI (k := 12) (kz := 12) jcl_X10 dX10_say_41 wf_X10_124 g_96 (Nat.le_of_ble_eq_true rfl) rfl rfl (J_iconst dX10_say_44 jc_1 (J_iadd dX10_say_45 (s3 c1 c2) (J_putI (k := 12) (kz := 12) jcl_X10 dX10_say_46 wf_X10_124 g_96 (Nat.le_of_ble_eq_true rfl) rfl rfl rfl (J_aload_n dX10_say_49 rfl (J_getI (k := 12) (kz := 12) jcl_X10 dX10_say_50 wf_X10_124 g_96 (Nat.le_of_ble_eq_true rfl) rfl rfl (J_iret dX10_say_53 rfl (k1 c1 c2))))))))))))))))) (fun c2 => (J_bipush dX10_say_26 jc_m4 jb_m4 (J_iret dX10_say_28 rfl (k2 c1 c2))))))))) (fun c => absurd c (by decide)))) (fun c1 => (J_if_ne dX10_say_11 (tgt := 17) (by decide) (fun c => absurd c (by decide)) (fun _ => (J_bipush dX10_say_14 jc_m2 jb_m2 (J_iret dX10_say_16 rfl (k3 c1))))))))))))
theorem b_X10_wipe_0 {l : Launch} {z d : Nat} {X : jX} {M : Nat → Int → Int} {Q : Option jV → jM → Prop}    (k1 : Q (some (jI (M 96 12))) (jG, (jupd M 96 12 0))) : J l z X d mX10_wipe (0, 0) 0 [jR 96, jN] [] (jG, M) Q :=
  (J_aload_n dX10_wipe_0 rfl (J_getI (k := 12) (kz := 12) jcl_X10 dX10_wipe_1 wf_X10_124 g_96 (Nat.le_of_ble_eq_true rfl) rfl rfl (J_istore_n dX10_wipe_4 (Nat.le_of_ble_eq_true rfl) (J_aload_n dX10_wipe_5 rfl (J_iconst dX10_wipe_6 jc_0 (J_putI (k := 12) (kz := 12) jcl_X10 dX10_wipe_7 wf_X10_124 g_96 (Nat.le_of_ble_eq_true rfl) rfl rfl rfl (J_iload_n dX10_wipe_10 rfl (J_iret dX10_wipe_11 rfl k1))))))))
theorem b_X10_close_0 {l : Launch} {z d : Nat} {X : jX} {M : Nat → Int → Int} {Q : Option jV → jM → Prop} {x1 : Int} {x2 : Int}  (s1 : 0 ≤ (M 96 16)) (s2 : (M 96 16) < 60) (s3 : 0 ≤ ((jupd M 104 (M 96 16) x1) 96 16)) (s4 : ((jupd M 104 (M 96 16) x1) 96 16) < 60) (s5 : jIn (((jupd (jupd M 104 (M 96 16) x1) 106 ((jupd M 104 (M 96 16) x1) 96 16) x2) 96 16) + 1)) (k1 : Q (some (jI 0)) (jG, (jupd (jupd (jupd M 104 (M 96 16) x1) 106 ((jupd M 104 (M 96 16) x1) 96 16) x2) 96 16 (((jupd (jupd M 104 (M 96 16) x1) 106 ((jupd M 104 (M 96 16) x1) 96 16) x2) 96 16) + 1)))) : J l z X d mX10_close (0, 0) 0 [jR 96, jI x1, jI x2] [] (jG, M) Q :=
  (J_aload_n dX10_close_0 rfl (J_getR (k := 13) jcl_X10 dX10_close_1 wf_X10_31 g_96 (Nat.le_of_ble_eq_true rfl) rfl rfl (J_aload_n dX10_close_4 rfl (J_getI (k := 16) (kz := 16) jcl_X10 dX10_close_5 wf_X10_131 g_96 (Nat.le_of_ble_eq_true rfl) rfl rfl (J_iload_n dX10_close_8 rfl (J_iast dX10_close_9 g_104 s1 s2 (J_aload_n dX10_close_10 rfl (J_getR (k := 15) jcl_X10 dX10_close_11 wf_X10_37 g_96 (Nat.le_of_ble_eq_true rfl) rfl rfl (J_aload_n dX10_close_14 rfl (J_getI (k := 16) (kz := 16) jcl_X10 dX10_close_15 wf_X10_131 g_96 (Nat.le_of_ble_eq_true rfl) rfl rfl (J_iload_n dX10_close_18 rfl (J_iast dX10_close_19 g_106 s3 s4 (J_aload_n dX10_close_20 rfl (J_dupR dX10_close_21 (J_getI (k := 16) (kz := 16) jcl_X10 dX10_close_22 wf_X10_131 g_96 (Nat.le_of_ble_eq_true rfl) rfl rfl (J_iconst dX10_close_25 jc_1 (J_iadd dX10_close_26 s5 (J_putI (k := 16) (kz := 16) jcl_X10 dX10_close_27 wf_X10_131 g_96 (Nat.le_of_ble_eq_true rfl) rfl rfl rfl (J_iconst dX10_close_30 jc_0 (J_iret dX10_close_31 rfl k1))))))))))))))))))))
theorem b_X10_readOn_0 {l : Launch} {z d : Nat} {X : jX} {M : Nat → Int → Int} {Q : Option jV → jM → Prop} {x1 : Int} {x2 : Int}  (s1 : x1 ≠ 0 → x1 = 2 → 65 ≤ x2 ∧ x2 ≤ 70 → jIn (x2 - 65)) (s2 : x1 = 0 → 65 ≤ x2 ∧ x2 ≤ 70 → jIn (x2 - 65)) (k1 : x1 ≠ 0 → x1 ≠ 2 → x2 ≠ 98 → x2 ≠ 104 → x2 ≠ 120 → x2 ≠ 62 → Q (some (jI (-6))) (jG, M)) (k2 : x1 ≠ 0 → x1 ≠ 2 → x2 ≠ 98 → x2 ≠ 104 → x2 ≠ 120 → x2 = 62 → Q (some (jI 2)) (jG, M)) (k3 : x1 ≠ 0 → x1 ≠ 2 → x2 ≠ 98 → x2 ≠ 104 → x2 = 120 → J l z X (d + 1) mX10_close (0, 0) 0 [jR 96, jI 2, jI 0] [] (jG, M) (fun r μ => J l z X (d + 2) mX10_readOn (0, 0) 141 [jR 96, jI x1, jI x2] (r.toList ++ []) μ Q)) (k4 : x1 ≠ 0 → x1 ≠ 2 → x2 ≠ 98 → x2 = 104 → J l z X (d + 1) mX10_close (0, 0) 0 [jR 96, jI 1, jI 0] [] (jG, M) (fun r μ => J l z X (d + 2) mX10_readOn (0, 0) 126 [jR 96, jI x1, jI x2] (r.toList ++ []) μ Q)) (k5 : x1 ≠ 0 → x1 ≠ 2 → x2 = 98 → J l z X (d + 1) mX10_close (0, 0) 0 [jR 96, jI 0, jI 0] [] (jG, M) (fun r μ => J l z X (d + 2) mX10_readOn (0, 0) 111 [jR 96, jI x1, jI x2] (r.toList ++ []) μ Q)) (k6 : x1 ≠ 0 → x1 = 2 → 65 ≤ x2 ∧ x2 ≤ 70 → J l z X (d + 1) mX10_close (0, 0) 0 [jR 96, jI 3, jI (x2 - 65)] [] (jG, M) (fun r μ => J l z X (d + 2) mX10_readOn (0, 0) 93 [jR 96, jI x1, jI x2] (r.toList ++ []) μ Q)) (k7 : x1 ≠ 0 → x1 = 2 → ¬ (65 ≤ x2 ∧ x2 ≤ 70) → Q (some (jI (-6))) (jG, M)) (k8 : x1 = 0 → 65 ≤ x2 ∧ x2 ≤ 70 → J l z X (d + 2) mX10_readOn (0, 0) 27 [jR 96, jI x1, jI x2] [jI (x2 - 65), jI (M 96 16), jR 105] (jG, M) Q) (k9 : x1 = 0 → ¬ (65 ≤ x2 ∧ x2 ≤ 70) → J l z X (d + 2) mX10_readOn (0, 0) 27 [jR 96, jI x1, jI x2] [jI 0, jI (M 96 16), jR 105] (jG, M) Q) : J l z X (d + 2) mX10_readOn (0, 0) 0 [jR 96, jI x1, jI x2] [] (jG, M) Q :=
  (J_iload_n dX10_readOn_0 rfl (J_if_ne dX10_readOn_1 (tgt := 72) (by decide) (fun c1 => (J_iload_n dX10_readOn_72 rfl (J_iconst dX10_readOn_73 jc_2 (J_icmp_ne dX10_readOn_74 (tgt := 99) (by decide) (fun c2 => (J_iload_n dX10_readOn_99 rfl (J_bipush dX10_readOn_100 jc_98 jb_98 (J_icmp_ne dX10_readOn_102 (tgt := 114) (by decide) (fun c3 => (J_iload_n dX10_readOn_114 rfl (J_bipush dX10_readOn_115 jc_104 jb_104 (J_icmp_ne dX10_readOn_117 (tgt := 129) (by decide) (fun c4 => (J_iload_n dX10_readOn_129 rfl (J_bipush dX10_readOn_130 jc_120 jb_120 (J_icmp_ne dX10_readOn_132 (tgt := 144) (by decide) (fun c5 => (J_iload_n dX10_readOn_144 rfl (J_bipush dX10_readOn_145 jc_62 jb_62 (J_icmp_ne dX10_readOn_147 (tgt := 154) (by decide) (fun c6 => (J_bipush dX10_readOn_154 jc_m6 jb_m6 (J_iret dX10_readOn_156 rfl (k1 c1 c2 c3 c4 c5 c6)))) (fun c6 => (J_iconst dX10_readOn_150 jc_2 (J_goto dX10_readOn_151 (tgt := 156) (by decide) (J_iret dX10_readOn_156 rfl (k2 c1 c2 c3 c4 c5 c6))))))))) (fun c5 => (J_aload_n dX10_readOn_135 rfl (J_iconst dX10_readOn_136 jc_2 (J_iconst dX10_readOn_137 jc_0 (J_callV (a1 := (0, 0)) (a2 := (0, 0)) (mm' := mX10_close) (S := []) [jI 2, jI 0] md_X10_close im_X10_close se_X10_close dX10_readOn_138 wm_X10_137 jcl_X10.1 rfl g_96 rfl rfl (Nat.le_of_ble_eq_true rfl) (Nat.le_of_ble_eq_true rfl) rfl (k3 c1 c2 c3 c4 c5)))))))))) (fun c4 => (J_aload_n dX10_readOn_120 rfl (J_iconst dX10_readOn_121 jc_1 (J_iconst dX10_readOn_122 jc_0 (J_callV (a1 := (0, 0)) (a2 := (0, 0)) (mm' := mX10_close) (S := []) [jI 1, jI 0] md_X10_close im_X10_close se_X10_close dX10_readOn_123 wm_X10_137 jcl_X10.1 rfl g_96 rfl rfl (Nat.le_of_ble_eq_true rfl) (Nat.le_of_ble_eq_true rfl) rfl (k4 c1 c2 c3 c4)))))))))) (fun c3 => (J_aload_n dX10_readOn_105 rfl (J_iconst dX10_readOn_106 jc_0 (J_iconst dX10_readOn_107 jc_0 (J_callV (a1 := (0, 0)) (a2 := (0, 0)) (mm' := mX10_close) (S := []) [jI 0, jI 0] md_X10_close im_X10_close se_X10_close dX10_readOn_108 wm_X10_137 jcl_X10.1 rfl g_96 rfl rfl (Nat.le_of_ble_eq_true rfl) (Nat.le_of_ble_eq_true rfl) rfl (k5 c1 c2 c3)))))))))) (fun c2 => (J_iload_n dX10_readOn_77 rfl (J_callS (a1 := (0, 0)) (a2 := (0, 0)) (mm' := mX10_isLetter) (S := []) [jI x2] md_X10_isLetter is_X10_isLetter dX10_readOn_78 wm_X10_134 rfl rfl (Nat.le_of_ble_eq_true rfl) (Nat.le_of_ble_eq_true rfl) rfl (c_X10_isLetter   (fun c7 => (J_if_eq dX10_readOn_81 (tgt := 96) (by decide) (fun c => absurd c (by decide)) (fun _ => (J_aload_n dX10_readOn_84 rfl (J_iconst dX10_readOn_85 jc_3 (J_iload_n dX10_readOn_86 rfl (J_bipush dX10_readOn_87 jc_65 jb_65 (J_isub dX10_readOn_89 (s1 c1 c2 c7) (J_callV (a1 := (0, 0)) (a2 := (0, 0)) (mm' := mX10_close) (S := []) [jI 3, jI (x2 - 65)] md_X10_close im_X10_close se_X10_close dX10_readOn_90 wm_X10_137 jcl_X10.1 rfl g_96 rfl rfl (Nat.le_of_ble_eq_true rfl) (Nat.le_of_ble_eq_true rfl) rfl (k6 c1 c2 c7)))))))))) (fun c7 => (J_if_eq dX10_readOn_81 (tgt := 96) (by decide) (fun _ => (J_bipush dX10_readOn_96 jc_m6 jb_m6 (J_iret dX10_readOn_98 rfl (k7 c1 c2 c7)))) (fun c => absurd c (by decide)))))))))))) (fun c1 => (J_aload_n dX10_readOn_4 rfl (J_getR (k := 14) jcl_X10 dX10_readOn_5 wf_X10_34 g_96 (Nat.le_of_ble_eq_true rfl) rfl rfl (J_aload_n dX10_readOn_8 rfl (J_getI (k := 16) (kz := 16) jcl_X10 dX10_readOn_9 wf_X10_131 g_96 (Nat.le_of_ble_eq_true rfl) rfl rfl (J_iload_n dX10_readOn_12 rfl (J_callS (a1 := (0, 0)) (a2 := (0, 0)) (mm' := mX10_isLetter) (S := [jI (M 96 16), jR 105]) [jI x2] md_X10_isLetter is_X10_isLetter dX10_readOn_13 wm_X10_134 rfl rfl (Nat.le_of_ble_eq_true rfl) (Nat.le_of_ble_eq_true rfl) rfl (c_X10_isLetter   (fun c8 => (J_if_eq dX10_readOn_16 (tgt := 26) (by decide) (fun c => absurd c (by decide)) (fun _ => (J_iload_n dX10_readOn_19 rfl (J_bipush dX10_readOn_20 jc_65 jb_65 (J_isub dX10_readOn_22 (s2 c1 c8) (J_goto dX10_readOn_23 (tgt := 27) (by decide) (k8 c1 c8)))))))) (fun c8 => (J_if_eq dX10_readOn_16 (tgt := 26) (by decide) (fun _ => (J_iconst dX10_readOn_26 jc_0 (k9 c1 c8))) (fun c => absurd c (by decide))))))))))))))
theorem b_X10_readOn_27 {l : Launch} {z d : Nat} {X : jX} {M : Nat → Int → Int} {Q : Option jV → jM → Prop} {x1 : Int} {x2 : Int} {t1 : Int} {t2 : Int}  (s1 : 0 ≤ t1) (s2 : t1 < 60) (k1 : 65 ≤ x2 ∧ x2 ≤ 70 → Q (some (jI 1)) (jG, (jupd M 105 t1 t2))) (k2 : ¬ (65 ≤ x2 ∧ x2 ≤ 70) → x2 ≠ 33 → x2 ≠ 46 → Q (some (jI (-6))) (jG, (jupd M 105 t1 t2))) (k3 : ¬ (65 ≤ x2 ∧ x2 ≤ 70) → x2 ≠ 33 → x2 = 46 → J l z X (d + 1) mX10_close (0, 0) 0 [jR 96, jI 5, jI 0] [] (jG, (jupd M 105 t1 t2)) (fun r μ => J l z X (d + 2) mX10_readOn (0, 0) 66 [jR 96, jI x1, jI x2] (r.toList ++ []) μ Q)) (k4 : ¬ (65 ≤ x2 ∧ x2 ≤ 70) → x2 = 33 → J l z X (d + 1) mX10_close (0, 0) 0 [jR 96, jI 4, jI 0] [] (jG, (jupd M 105 t1 t2)) (fun r μ => J l z X (d + 2) mX10_readOn (0, 0) 51 [jR 96, jI x1, jI x2] (r.toList ++ []) μ Q)) : J l z X (d + 2) mX10_readOn (0, 0) 27 [jR 96, jI x1, jI x2] [jI t2, jI t1, jR 105] (jG, M) Q :=
  (J_iast dX10_readOn_27 g_105 s1 s2 (J_iload_n dX10_readOn_28 rfl (J_callS (a1 := (0, 0)) (a2 := (0, 0)) (mm' := mX10_isLetter) (S := []) [jI x2] md_X10_isLetter is_X10_isLetter dX10_readOn_29 wm_X10_134 rfl rfl (Nat.le_of_ble_eq_true rfl) (Nat.le_of_ble_eq_true rfl) rfl (c_X10_isLetter   (fun c1 => (J_if_eq dX10_readOn_32 (tgt := 39) (by decide) (fun c => absurd c (by decide)) (fun _ => (J_iconst dX10_readOn_35 jc_1 (J_goto dX10_readOn_36 (tgt := 71) (by decide) (J_iret dX10_readOn_71 rfl (k1 c1))))))) (fun c1 => (J_if_eq dX10_readOn_32 (tgt := 39) (by decide) (fun _ => (J_iload_n dX10_readOn_39 rfl (J_bipush dX10_readOn_40 jc_33 jb_33 (J_icmp_ne dX10_readOn_42 (tgt := 54) (by decide) (fun c2 => (J_iload_n dX10_readOn_54 rfl (J_bipush dX10_readOn_55 jc_46 jb_46 (J_icmp_ne dX10_readOn_57 (tgt := 69) (by decide) (fun c3 => (J_bipush dX10_readOn_69 jc_m6 jb_m6 (J_iret dX10_readOn_71 rfl (k2 c1 c2 c3)))) (fun c3 => (J_aload_n dX10_readOn_60 rfl (J_iconst dX10_readOn_61 jc_5 (J_iconst dX10_readOn_62 jc_0 (J_callV (a1 := (0, 0)) (a2 := (0, 0)) (mm' := mX10_close) (S := []) [jI 5, jI 0] md_X10_close im_X10_close se_X10_close dX10_readOn_63 wm_X10_137 jcl_X10.1 rfl g_96 rfl rfl (Nat.le_of_ble_eq_true rfl) (Nat.le_of_ble_eq_true rfl) rfl (k3 c1 c2 c3)))))))))) (fun c2 => (J_aload_n dX10_readOn_45 rfl (J_iconst dX10_readOn_46 jc_4 (J_iconst dX10_readOn_47 jc_0 (J_callV (a1 := (0, 0)) (a2 := (0, 0)) (mm' := mX10_close) (S := []) [jI 4, jI 0] md_X10_close im_X10_close se_X10_close dX10_readOn_48 wm_X10_137 jcl_X10.1 rfl g_96 rfl rfl (Nat.le_of_ble_eq_true rfl) (Nat.le_of_ble_eq_true rfl) rfl (k4 c1 c2)))))))))) (fun c => absurd c (by decide))))))))
theorem b_X10_readOn_51 {l : Launch} {z d : Nat} {X : jX} {M : Nat → Int → Int} {Q : Option jV → jM → Prop} {x1 : Int} {x2 : Int} {t0 : Int}   (k1 : Q (some (jI t0)) (jG, M)) : J l z X (d + 2) mX10_readOn (0, 0) 51 [jR 96, jI x1, jI x2] [jI t0] (jG, M) Q :=
  (J_goto dX10_readOn_51 (tgt := 71) (by decide) (J_iret dX10_readOn_71 rfl k1))
theorem b_X10_readOn_66 {l : Launch} {z d : Nat} {X : jX} {M : Nat → Int → Int} {Q : Option jV → jM → Prop} {x1 : Int} {x2 : Int} {t0 : Int}   (k1 : Q (some (jI t0)) (jG, M)) : J l z X (d + 2) mX10_readOn (0, 0) 66 [jR 96, jI x1, jI x2] [jI t0] (jG, M) Q :=
  (J_goto dX10_readOn_66 (tgt := 71) (by decide) (J_iret dX10_readOn_71 rfl k1))
theorem b_X10_readOn_93 {l : Launch} {z d : Nat} {X : jX} {M : Nat → Int → Int} {Q : Option jV → jM → Prop} {x1 : Int} {x2 : Int} {t0 : Int}   (k1 : Q (some (jI t0)) (jG, M)) : J l z X (d + 2) mX10_readOn (0, 0) 93 [jR 96, jI x1, jI x2] [jI t0] (jG, M) Q :=
  (J_goto dX10_readOn_93 (tgt := 98) (by decide) (J_iret dX10_readOn_98 rfl k1))
theorem b_X10_readOn_111 {l : Launch} {z d : Nat} {X : jX} {M : Nat → Int → Int} {Q : Option jV → jM → Prop} {x1 : Int} {x2 : Int} {t0 : Int}   (k1 : Q (some (jI t0)) (jG, M)) : J l z X (d + 2) mX10_readOn (0, 0) 111 [jR 96, jI x1, jI x2] [jI t0] (jG, M) Q :=
  (J_goto dX10_readOn_111 (tgt := 156) (by decide) (J_iret dX10_readOn_156 rfl k1))
theorem b_X10_readOn_126 {l : Launch} {z d : Nat} {X : jX} {M : Nat → Int → Int} {Q : Option jV → jM → Prop} {x1 : Int} {x2 : Int} {t0 : Int}   (k1 : Q (some (jI t0)) (jG, M)) : J l z X (d + 2) mX10_readOn (0, 0) 126 [jR 96, jI x1, jI x2] [jI t0] (jG, M) Q :=
  (J_goto dX10_readOn_126 (tgt := 156) (by decide) (J_iret dX10_readOn_156 rfl k1))
theorem b_X10_readOn_141 {l : Launch} {z d : Nat} {X : jX} {M : Nat → Int → Int} {Q : Option jV → jM → Prop} {x1 : Int} {x2 : Int} {t0 : Int}   (k1 : Q (some (jI t0)) (jG, M)) : J l z X (d + 2) mX10_readOn (0, 0) 141 [jR 96, jI x1, jI x2] [jI t0] (jG, M) Q :=
  (J_goto dX10_readOn_141 (tgt := 156) (by decide) (J_iret dX10_readOn_156 rfl k1))
theorem b_X10_fault_0 {l : Launch} {z d : Nat} {X : jX} {M : Nat → Int → Int} {Q : Option jV → jM → Prop}    (k1 : J l z X (d + 3) mX10_fault (0, 0) 9 [jR 96, jI 0, jI 0] [] (jG, (jupd M 96 16 0)) Q) : J l z X (d + 3) mX10_fault (0, 0) 0 [jR 96, jN, jN] [] (jG, M) Q :=
  (J_aload_n dX10_fault_0 rfl (J_iconst dX10_fault_1 jc_0 (J_putI (k := 16) (kz := 16) jcl_X10 dX10_fault_2 wf_X10_131 g_96 (Nat.le_of_ble_eq_true rfl) rfl rfl rfl (J_iconst dX10_fault_5 jc_0 (J_istore_n dX10_fault_6 (Nat.le_of_ble_eq_true rfl) (J_iconst dX10_fault_7 jc_0 (J_istore_n dX10_fault_8 (Nat.le_of_ble_eq_true rfl) k1)))))))
theorem b_X10_fault_9 {l : Launch} {z d : Nat} {X : jX} {M : Nat → Int → Int} {Q : Option jV → jM → Prop} {x1 : Int} {x2 : Int}  (s1 : x2 < (M 96 12) → 0 ≤ x2) (s2 : x2 < (M 96 12) → x2 < 60) (k1 : (M 96 12) ≤ x2 → x1 ≠ 0 → Q (some (jI (M 96 12))) (jG, M)) (k2 : (M 96 12) ≤ x2 → x1 = 0 → Q (some (jI (-6))) (jG, M)) (k3 : x2 < (M 96 12) → J l z X (d + 2) mX10_readOn (0, 0) 0 [jR 96, jI x1, jI (M 103 x2)] [] (jG, M) (fun r μ => J l z X (d + 3) mX10_fault (0, 0) 28 [jR 96, jI x1, jI x2] (r.toList ++ []) μ Q)) : J l z X (d + 3) mX10_fault (0, 0) 9 [jR 96, jI x1, jI x2] [] (jG, M) Q :=
  (J_iload_n dX10_fault_9 rfl (J_aload_n dX10_fault_10 rfl (J_getI (k := 12) (kz := 12) jcl_X10 dX10_fault_11 wf_X10_124 g_96 (Nat.le_of_ble_eq_true rfl) rfl rfl (J_icmp_ge dX10_fault_14 (tgt := 41) (by decide) (fun c1 => (J_iload_n dX10_fault_41 rfl (J_if_ne dX10_fault_42 (tgt := 50) (by decide) (fun c2 => (J_aload_n dX10_fault_50 rfl (J_getI (k := 12) (kz := 12) jcl_X10 dX10_fault_51 wf_X10_124 g_96 (Nat.le_of_ble_eq_true rfl) rfl rfl (J_iret dX10_fault_54 rfl (k1 c1 c2))))) (fun c2 => (J_bipush dX10_fault_45 jc_m6 jb_m6 (J_goto dX10_fault_47 (tgt := 54) (by decide) (J_iret dX10_fault_54 rfl (k2 c1 c2)))))))) (fun c1 => (J_aload_n dX10_fault_17 rfl (J_iload_n dX10_fault_18 rfl (J_aload_n dX10_fault_19 rfl (J_getR (k := 11) jcl_X10 dX10_fault_20 wf_X10_28 g_96 (Nat.le_of_ble_eq_true rfl) rfl rfl (J_iload_n dX10_fault_23 rfl (J_iald dX10_fault_24 g_103 (s1 c1) (s2 c1) (J_callV (a1 := (0, 0)) (a2 := (0, 0)) (mm' := mX10_readOn) (S := []) [jI x1, jI (M 103 x2)] md_X10_readOn im_X10_readOn se_X10_readOn dX10_fault_25 wm_X10_141 jcl_X10.1 rfl g_96 rfl rfl (Nat.le_of_ble_eq_true rfl) (Nat.le_of_ble_eq_true rfl) rfl (k3 c1)))))))))))))
theorem b_X10_fault_28 {l : Launch} {z d : Nat} {X : jX} {M : Nat → Int → Int} {Q : Option jV → jM → Prop} {x1 : Int} {x2 : Int} {t0 : Int}  (s1 : 0 ≤ t0 → jIn (x2 + 1)) (k1 : 0 ≤ t0 → J l z X (d + 3) mX10_fault (0, 0) 9 [jR 96, jI t0, jI (x2 + 1)] [] (jG, M) Q) (k2 : t0 < 0 → Q (some (jI x2)) (jG, M)) : J l z X (d + 3) mX10_fault (0, 0) 28 [jR 96, jI x1, jI x2] [jI t0] (jG, M) Q :=
  (J_istore_n dX10_fault_28 (Nat.le_of_ble_eq_true rfl) (J_iload_n dX10_fault_29 rfl (J_if_ge dX10_fault_30 (tgt := 35) (by decide) (fun c1 => (J_iinc dX10_fault_35 rfl jc_1 (s1 c1) (J_goto dX10_fault_38 (tgt := 9) (by decide) (k1 c1)))) (fun c1 => (J_iload_n dX10_fault_33 rfl (J_iret dX10_fault_34 rfl (k2 c1)))))))
theorem b_X10_whyNotGive_0 {l : Launch} {z d : Nat} {X : jX} {M : Nat → Int → Int} {Q : Option jV → jM → Prop} {x1 : Int} {x2 : Int}  (s1 : hasB (M 96 0) x2 = true → x1 ≠ x2 → 0 ≤ x2) (s2 : hasB (M 96 0) x2 = true → x1 ≠ x2 → x2 < 6) (s3 : hasB (M 96 0) x2 = true → x1 ≠ x2 → (M 100 x2) ≠ 2 → 0 ≤ x1) (s4 : hasB (M 96 0) x2 = true → x1 ≠ x2 → (M 100 x2) ≠ 2 → x1 < 6) (k1 : hasB (M 96 0) x2 = true → x1 ≠ x2 → (M 100 x2) ≠ 2 → (M 100 x1) ≠ 0 → Q (some (jI 0)) (jG, M)) (k2 : hasB (M 96 0) x2 = true → x1 ≠ x2 → (M 100 x2) ≠ 2 → (M 100 x1) = 0 → Q (some (jI 5)) (jG, M)) (k3 : hasB (M 96 0) x2 = true → x1 ≠ x2 → (M 100 x2) = 2 → Q (some (jI 3)) (jG, M)) (k4 : hasB (M 96 0) x2 = true → x1 = x2 → Q (some (jI 2)) (jG, M)) (k5 : hasB (M 96 0) x2 = false → Q (some (jI 1)) (jG, M)) : J l z X (d + 2) mX10_whyNotGive (0, 0) 0 [jR 96, jI x1, jI x2] [] (jG, M) Q :=
  (J_aload_n dX10_whyNotGive_0 rfl (J_iload_n dX10_whyNotGive_1 rfl (J_callV (a1 := (0, 0)) (a2 := (0, 0)) (mm' := mX10_isOne) (S := []) [jI x2] md_X10_isOne im_X10_isOne se_X10_isOne dX10_whyNotGive_2 wm_X10_109 jcl_X10.1 rfl g_96 rfl rfl (Nat.le_of_ble_eq_true rfl) (Nat.le_of_ble_eq_true rfl) rfl (c_X10_isOne   (fun c1 => (J_if_ne dX10_whyNotGive_5 (tgt := 10) (by decide) (fun _ => (J_iload_n dX10_whyNotGive_10 rfl (J_iload_n dX10_whyNotGive_11 rfl (J_icmp_ne dX10_whyNotGive_12 (tgt := 17) (by decide) (fun c2 => (J_aload_n dX10_whyNotGive_17 rfl (J_getR (k := 7) jcl_X10 dX10_whyNotGive_18 wf_X10_19 g_96 (Nat.le_of_ble_eq_true rfl) rfl rfl (J_iload_n dX10_whyNotGive_21 rfl (J_iald dX10_whyNotGive_22 g_100 (s1 c1 c2) (s2 c1 c2) (J_iconst dX10_whyNotGive_23 jc_2 (J_icmp_ne dX10_whyNotGive_24 (tgt := 31) (by decide) (fun c3 => (J_aload_n dX10_whyNotGive_31 rfl (J_getR (k := 7) jcl_X10 dX10_whyNotGive_32 wf_X10_19 g_96 (Nat.le_of_ble_eq_true rfl) rfl rfl (J_iload_n dX10_whyNotGive_35 rfl (J_iald dX10_whyNotGive_36 g_100 (s3 c1 c2 c3) (s4 c1 c2 c3) (J_if_ne dX10_whyNotGive_37 (tgt := 44) (by decide) (fun c4 => (J_iconst dX10_whyNotGive_44 jc_0 (J_iret dX10_whyNotGive_45 rfl (k1 c1 c2 c3 c4)))) (fun c4 => (J_iconst dX10_whyNotGive_40 jc_5 (J_goto dX10_whyNotGive_41 (tgt := 45) (by decide) (J_iret dX10_whyNotGive_45 rfl (k2 c1 c2 c3 c4))))))))))) (fun c3 => (J_iconst dX10_whyNotGive_27 jc_3 (J_goto dX10_whyNotGive_28 (tgt := 45) (by decide) (J_iret dX10_whyNotGive_45 rfl (k3 c1 c2 c3)))))))))))) (fun c2 => (J_iconst dX10_whyNotGive_15 jc_2 (J_iret dX10_whyNotGive_16 rfl (k4 c1 c2)))))))) (fun c => absurd c (by decide)))) (fun c1 => (J_if_ne dX10_whyNotGive_5 (tgt := 10) (by decide) (fun c => absurd c (by decide)) (fun _ => (J_iconst dX10_whyNotGive_8 jc_1 (J_iret dX10_whyNotGive_9 rfl (k5 c1))))))))))
theorem b_X10_whyNot_0 {l : Launch} {z d : Nat} {X : jX} {M : Nat → Int → Int} {Q : Option jV → jM → Prop} {x1 : Int} {x2 : Int} {x3 : Int}   (k1 : x1 = 4 → Q (some (jI 0)) (jG, M)) (k2 : x1 ≠ 4 → x1 ≠ 5 → hasB (M 96 0) x2 = true → x1 ≠ 2 → x1 ≠ 3 → x1 ≠ 0 → J l z X (d + 3) mX10_whyNot (0, 0) 50 [jR 96, jI x1, jI x2, jI x3, jN] [jI 1] (jG, M) Q) (k3 : x1 ≠ 4 → x1 ≠ 5 → hasB (M 96 0) x2 = true → x1 ≠ 2 → x1 ≠ 3 → x1 = 0 → J l z X (d + 3) mX10_whyNot (0, 0) 50 [jR 96, jI x1, jI x2, jI x3, jN] [jI 2] (jG, M) Q) (k4 : x1 ≠ 4 → x1 ≠ 5 → hasB (M 96 0) x2 = true → x1 ≠ 2 → x1 = 3 → J l z X (d + 2) mX10_whyNotGive (0, 0) 0 [jR 96, jI x2, jI x3] [] (jG, M) (fun r μ => J l z X (d + 3) mX10_whyNot (0, 0) 40 [jR 96, jI x1, jI x2, jI x3, jN] (r.toList ++ []) μ Q)) (k5 : x1 ≠ 4 → x1 ≠ 5 → hasB (M 96 0) x2 = true → x1 = 2 → Q (some (jI 0)) (jG, M)) (k6 : x1 ≠ 4 → x1 ≠ 5 → hasB (M 96 0) x2 = false → Q (some (jI 1)) (jG, M)) (k7 : x1 ≠ 4 → x1 = 5 → Q (some (jI 0)) (jG, M)) : J l z X (d + 3) mX10_whyNot (0, 0) 0 [jR 96, jI x1, jI x2, jI x3, jN] [] (jG, M) Q :=
  (J_iload_n dX10_whyNot_0 rfl (J_iconst dX10_whyNot_1 jc_4 (J_icmp_eq dX10_whyNot_2 (tgt := 10) (by decide) (fun c1 => (J_iconst dX10_whyNot_10 jc_0 (J_iret dX10_whyNot_11 rfl (k1 c1)))) (fun c1 => (J_iload_n dX10_whyNot_5 rfl (J_iconst dX10_whyNot_6 jc_5 (J_icmp_ne dX10_whyNot_7 (tgt := 12) (by decide) (fun c2 => (J_aload_n dX10_whyNot_12 rfl (J_iload_n dX10_whyNot_13 rfl (J_callV (a1 := (0, 0)) (a2 := (0, 0)) (mm' := mX10_isOne) (S := []) [jI x2] md_X10_isOne im_X10_isOne se_X10_isOne dX10_whyNot_14 wm_X10_109 jcl_X10.1 rfl g_96 rfl rfl (Nat.le_of_ble_eq_true rfl) (Nat.le_of_ble_eq_true rfl) rfl (c_X10_isOne   (fun c3 => (J_if_ne dX10_whyNot_17 (tgt := 22) (by decide) (fun _ => (J_iload_n dX10_whyNot_22 rfl (J_iconst dX10_whyNot_23 jc_2 (J_icmp_ne dX10_whyNot_24 (tgt := 29) (by decide) (fun c4 => (J_iload_n dX10_whyNot_29 rfl (J_iconst dX10_whyNot_30 jc_3 (J_icmp_ne dX10_whyNot_31 (tgt := 41) (by decide) (fun c5 => (J_iload_n dX10_whyNot_41 rfl (J_if_ne dX10_whyNot_42 (tgt := 49) (by decide) (fun c6 => (J_iconst dX10_whyNot_49 jc_1 (k2 c1 c2 c3 c4 c5 c6))) (fun c6 => (J_iconst dX10_whyNot_45 jc_2 (J_goto dX10_whyNot_46 (tgt := 50) (by decide) (k3 c1 c2 c3 c4 c5 c6))))))) (fun c5 => (J_aload_n dX10_whyNot_34 rfl (J_iload_n dX10_whyNot_35 rfl (J_iload_n dX10_whyNot_36 rfl (J_callV (a1 := (0, 0)) (a2 := (0, 0)) (mm' := mX10_whyNotGive) (S := []) [jI x2, jI x3] md_X10_whyNotGive im_X10_whyNotGive se_X10_whyNotGive dX10_whyNot_37 wm_X10_144 jcl_X10.1 rfl g_96 rfl rfl (Nat.le_of_ble_eq_true rfl) (Nat.le_of_ble_eq_true rfl) rfl (k4 c1 c2 c3 c4 c5)))))))))) (fun c4 => (J_iconst dX10_whyNot_27 jc_0 (J_iret dX10_whyNot_28 rfl (k5 c1 c2 c3 c4)))))))) (fun c => absurd c (by decide)))) (fun c3 => (J_if_ne dX10_whyNot_17 (tgt := 22) (by decide) (fun c => absurd c (by decide)) (fun _ => (J_iconst dX10_whyNot_20 jc_1 (J_iret dX10_whyNot_21 rfl (k6 c1 c2 c3))))))))))) (fun c2 => (J_iconst dX10_whyNot_10 jc_0 (J_iret dX10_whyNot_11 rfl (k7 c1 c2)))))))))))
theorem b_X10_whyNot_40 {l : Launch} {z d : Nat} {X : jX} {M : Nat → Int → Int} {Q : Option jV → jM → Prop} {x1 : Int} {x2 : Int} {x3 : Int} {t0 : Int}   (k1 : Q (some (jI t0)) (jG, M)) : J l z X (d + 3) mX10_whyNot (0, 0) 40 [jR 96, jI x1, jI x2, jI x3, jN] [jI t0] (jG, M) Q :=
  (J_iret dX10_whyNot_40 rfl k1)
theorem b_X10_whyNot_50 {l : Launch} {z d : Nat} {X : jX} {M : Nat → Int → Int} {Q : Option jV → jM → Prop} {x1 : Int} {x2 : Int} {x3 : Int} {t0 : Int}  (s1 : 0 ≤ x2) (s2 : x2 < 6) (s3 : jIn ((M 100 x2) + t0)) (k1 : ((M 100 x2) + t0) ≤ 2 → t0 ≤ (M 96 1) → Q (some (jI 0)) (jG, M)) (k2 : ((M 100 x2) + t0) ≤ 2 → (M 96 1) < t0 → Q (some (jI 4)) (jG, M)) (k3 : 2 < ((M 100 x2) + t0) → Q (some (jI 3)) (jG, M)) : J l z X (d + 3) mX10_whyNot (0, 0) 50 [jR 96, jI x1, jI x2, jI x3, jN] [jI t0] (jG, M) Q :=
  (J_istore dX10_whyNot_50 (Nat.le_of_ble_eq_true rfl) (J_aload_n dX10_whyNot_52 rfl (J_getR (k := 7) jcl_X10 dX10_whyNot_53 wf_X10_19 g_96 (Nat.le_of_ble_eq_true rfl) rfl rfl (J_iload_n dX10_whyNot_56 rfl (J_iald dX10_whyNot_57 g_100 s1 s2 (J_iload dX10_whyNot_58 rfl (J_iadd dX10_whyNot_60 s3 (J_iconst dX10_whyNot_61 jc_2 (J_icmp_le dX10_whyNot_62 (tgt := 69) (by decide) (fun c1 => (J_aload_n dX10_whyNot_69 rfl (J_getI (k := 1) (kz := 1) jcl_X10 dX10_whyNot_70 wf_X10_117 g_96 (Nat.le_of_ble_eq_true rfl) rfl rfl (J_iload dX10_whyNot_73 rfl (J_icmp_ge dX10_whyNot_75 (tgt := 82) (by decide) (fun c2 => (J_iconst dX10_whyNot_82 jc_0 (J_iret dX10_whyNot_83 rfl (k1 c1 c2)))) (fun c2 => (J_iconst dX10_whyNot_78 jc_4 (J_goto dX10_whyNot_79 (tgt := 83) (by decide) (J_iret dX10_whyNot_83 rfl (k2 c1 c2)))))))))) (fun c1 => (J_iconst dX10_whyNot_65 jc_3 (J_goto dX10_whyNot_66 (tgt := 83) (by decide) (J_iret dX10_whyNot_83 rfl (k3 c1))))))))))))))
theorem b_X10_oldestNow_0 {l : Launch} {z d : Nat} {X : jX} {M : Nat → Int → Int} {Q : Option jV → jM → Prop}    (k1 : J l z X (d + 2) mX10_oldestNow (0, 0) 5 [jR 96, jI (-6), jI 0] [] (jG, M) Q) : J l z X (d + 2) mX10_oldestNow (0, 0) 0 [jR 96, jN, jN] [] (jG, M) Q :=
  (J_bipush dX10_oldestNow_0 jc_m6 jb_m6 (J_istore_n dX10_oldestNow_2 (Nat.le_of_ble_eq_true rfl) (J_iconst dX10_oldestNow_3 jc_0 (J_istore_n dX10_oldestNow_4 (Nat.le_of_ble_eq_true rfl) k1))))
theorem b_X10_oldestNow_5 {l : Launch} {z d : Nat} {X : jX} {M : Nat → Int → Int} {Q : Option jV → jM → Prop} {x1 : Int} {x2 : Int}  (s1 : x2 < 6 → hasB (M 96 0) x2 = true → 0 ≤ x1 → 0 ≤ x2) (s2 : x2 < 6 → hasB (M 96 0) x2 = true → 0 ≤ x1 → x2 < 6) (s3 : x2 < 6 → hasB (M 96 0) x2 = true → 0 ≤ x1 → 0 ≤ x1) (s4 : x2 < 6 → hasB (M 96 0) x2 = true → 0 ≤ x1 → x1 < 6) (k1 : 6 ≤ x2 → Q (some (jI x1)) (jG, M)) (k2 : x2 < 6 → hasB (M 96 0) x2 = true → x1 < 0 → J l z X (d + 2) mX10_oldestNow (0, 0) 38 [jR 96, jI x1, jI x2] [] (jG, M) Q) (k3 : x2 < 6 → hasB (M 96 0) x2 = true → 0 ≤ x1 → (M 97 x2) ≤ (M 97 x1) → J l z X (d + 2) mX10_oldestNow (0, 0) 42 [jR 96, jI x1, jI x2] [] (jG, M) Q) (k4 : x2 < 6 → hasB (M 96 0) x2 = true → 0 ≤ x1 → (M 97 x1) < (M 97 x2) → J l z X (d + 2) mX10_oldestNow (0, 0) 38 [jR 96, jI x1, jI x2] [] (jG, M) Q) (k5 : x2 < 6 → hasB (M 96 0) x2 = false → J l z X (d + 2) mX10_oldestNow (0, 0) 42 [jR 96, jI x1, jI x2] [] (jG, M) Q) : J l z X (d + 2) mX10_oldestNow (0, 0) 5 [jR 96, jI x1, jI x2] [] (jG, M) Q :=
  (J_iload_n dX10_oldestNow_5 rfl (J_bipush dX10_oldestNow_6 jc_6 jb_6 (J_icmp_ge dX10_oldestNow_8 (tgt := 50) (by decide) (fun c1 => (J_iload_n dX10_oldestNow_50 rfl (J_iret dX10_oldestNow_51 rfl (k1 c1)))) (fun c1 => (J_aload_n dX10_oldestNow_11 rfl (J_iload_n dX10_oldestNow_12 rfl (J_callV (a1 := (0, 0)) (a2 := (0, 0)) (mm' := mX10_isOne) (S := []) [jI x2] md_X10_isOne im_X10_isOne se_X10_isOne dX10_oldestNow_13 wm_X10_109 jcl_X10.1 rfl g_96 rfl rfl (Nat.le_of_ble_eq_true rfl) (Nat.le_of_ble_eq_true rfl) rfl (c_X10_isOne   (fun c2 => (J_if_eq dX10_oldestNow_16 (tgt := 42) (by decide) (fun c => absurd c (by decide)) (fun _ => (J_iload_n dX10_oldestNow_19 rfl (J_if_lt dX10_oldestNow_20 (tgt := 38) (by decide) (fun c3 => (k2 c1 c2 c3)) (fun c3 => (J_aload_n dX10_oldestNow_23 rfl (J_getR (k := 4) jcl_X10 dX10_oldestNow_24 wf_X10_7 g_96 (Nat.le_of_ble_eq_true rfl) rfl rfl (J_iload_n dX10_oldestNow_27 rfl (J_iald dX10_oldestNow_28 g_97 (s1 c1 c2 c3) (s2 c1 c2 c3) (J_aload_n dX10_oldestNow_29 rfl (J_getR (k := 4) jcl_X10 dX10_oldestNow_30 wf_X10_7 g_96 (Nat.le_of_ble_eq_true rfl) rfl rfl (J_iload_n dX10_oldestNow_33 rfl (J_iald dX10_oldestNow_34 g_97 (s3 c1 c2 c3) (s4 c1 c2 c3) (J_icmp_le dX10_oldestNow_35 (tgt := 42) (by decide) (fun c4 => (k3 c1 c2 c3 c4)) (fun c4 => (k4 c1 c2 c3 c4))))))))))))))))) (fun c2 => (J_if_eq dX10_oldestNow_16 (tgt := 42) (by decide) (fun _ => (k5 c1 c2)) (fun c => absurd c (by decide))))))))))))
theorem b_X10_oldestNow_38 {l : Launch} {z d : Nat} {X : jX} {M : Nat → Int → Int} {Q : Option jV → jM → Prop} {x1 : Int} {x2 : Int}   (k1 : J l z X (d + 2) mX10_oldestNow (0, 0) 43 [jR 96, jI x1, jI x2] [jI x2] (jG, M) Q) : J l z X (d + 2) mX10_oldestNow (0, 0) 38 [jR 96, jI x1, jI x2] [] (jG, M) Q :=
  (J_iload_n dX10_oldestNow_38 rfl (J_goto dX10_oldestNow_39 (tgt := 43) (by decide) k1))
theorem b_X10_oldestNow_42 {l : Launch} {z d : Nat} {X : jX} {M : Nat → Int → Int} {Q : Option jV → jM → Prop} {x1 : Int} {x2 : Int}   (k1 : J l z X (d + 2) mX10_oldestNow (0, 0) 43 [jR 96, jI x1, jI x2] [jI x1] (jG, M) Q) : J l z X (d + 2) mX10_oldestNow (0, 0) 42 [jR 96, jI x1, jI x2] [] (jG, M) Q :=
  (J_iload_n dX10_oldestNow_42 rfl k1)
theorem b_X10_oldestNow_43 {l : Launch} {z d : Nat} {X : jX} {M : Nat → Int → Int} {Q : Option jV → jM → Prop} {x1 : Int} {x2 : Int} {t0 : Int}  (s1 : jIn (x2 + 1)) (k1 : J l z X (d + 2) mX10_oldestNow (0, 0) 5 [jR 96, jI t0, jI (x2 + 1)] [] (jG, M) Q) : J l z X (d + 2) mX10_oldestNow (0, 0) 43 [jR 96, jI x1, jI x2] [jI t0] (jG, M) Q :=
  (J_istore_n dX10_oldestNow_43 (Nat.le_of_ble_eq_true rfl) (J_iinc dX10_oldestNow_44 rfl jc_1 s1 (J_goto dX10_oldestNow_47 (tgt := 5) (by decide) k1)))
theorem b_X10_passing_0 {l : Launch} {z d : Nat} {X : jX} {M : Nat → Int → Int} {Q : Option jV → jM → Prop}    (k1 : J l z X (d + 2) mX10_passing (0, 0) 2 [jR 96, jI 0, jN, jN, jN, jN] [] (jG, M) Q) : J l z X (d + 2) mX10_passing (0, 0) 0 [jR 96, jN, jN, jN, jN, jN] [] (jG, M) Q :=
  (J_iconst dX10_passing_0 jc_0 (J_istore_n dX10_passing_1 (Nat.le_of_ble_eq_true rfl) k1))
theorem b_X10_passing_2 {l : Launch} {z d : Nat} {X : jX} {M : Nat → Int → Int} {Q : Option jV → jM → Prop} {x1 : Int}  (s1 : x1 < 6 → jIn (x1 + 1)) (k1 : 6 ≤ x1 → Q (some (jI (-6))) (jG, M)) (k2 : x1 < 6 → J l z X (d + 2) mX10_passing (0, 0) 12 [jR 96, jI x1, jI (x1 + 1), jN, jN, jN] [] (jG, M) Q) : J l z X (d + 2) mX10_passing (0, 0) 2 [jR 96, jI x1, jN, jN, jN, jN] [] (jG, M) Q :=
  (J_iload_n dX10_passing_2 rfl (J_bipush dX10_passing_3 jc_6 jb_6 (J_icmp_ge dX10_passing_5 (tgt := 112) (by decide) (fun c1 => (J_bipush dX10_passing_112 jc_m6 jb_m6 (J_iret dX10_passing_114 rfl (k1 c1)))) (fun c1 => (J_iload_n dX10_passing_8 rfl (J_iconst dX10_passing_9 jc_1 (J_iadd dX10_passing_10 (s1 c1) (J_istore_n dX10_passing_11 (Nat.le_of_ble_eq_true rfl) (k2 c1)))))))))
theorem b_X10_passing_12 {l : Launch} {z d : Nat} {X : jX} {M : Nat → Int → Int} {Q : Option jV → jM → Prop} {x1 : Int} {x2 : Int}  (s1 : 6 ≤ x2 → jIn (x1 + 1)) (s2 : x2 < 6 → 0 ≤ x1) (s3 : x2 < 6 → x1 < 6) (s4 : x2 < 6 → 0 ≤ x2) (s5 : x2 < 6 → x2 < 6) (s6 : x2 < 6 → jIn ((M 108 x1) - (M 108 x2))) (s7 : x2 < 6 → jIn ((M 97 x1) - (M 97 x2))) (k1 : 6 ≤ x2 → J l z X (d + 2) mX10_passing (0, 0) 2 [jR 96, jI (x1 + 1), jN, jN, jN, jN] [] (jG, M) Q) (k2 : x2 < 6 → 0 ≤ ((M 108 x1) - (M 108 x2)) → J l z X (d + 2) mX10_passing (0, 0) 56 [jR 96, jI x1, jI x2, jI ((M 108 x1) - (M 108 x2)), jI ((M 97 x1) - (M 97 x2)), jN] [] (jG, M) Q) (k3 : x2 < 6 → ((M 108 x1) - (M 108 x2)) < 0 → 0 < ((M 97 x1) - (M 97 x2)) → J l z X (d + 2) mX10_passing (0, 0) 65 [jR 96, jI x1, jI x2, jI ((M 108 x1) - (M 108 x2)), jI ((M 97 x1) - (M 97 x2)), jN] [] (jG, M) Q) (k4 : x2 < 6 → ((M 108 x1) - (M 108 x2)) < 0 → ((M 97 x1) - (M 97 x2)) ≤ 0 → J l z X (d + 2) mX10_passing (0, 0) 56 [jR 96, jI x1, jI x2, jI ((M 108 x1) - (M 108 x2)), jI ((M 97 x1) - (M 97 x2)), jN] [] (jG, M) Q) : J l z X (d + 2) mX10_passing (0, 0) 12 [jR 96, jI x1, jI x2, jN, jN, jN] [] (jG, M) Q :=
  (J_iload_n dX10_passing_12 rfl (J_bipush dX10_passing_13 jc_6 jb_6 (J_icmp_ge dX10_passing_15 (tgt := 106) (by decide) (fun c1 => (J_iinc dX10_passing_106 rfl jc_1 (s1 c1) (J_goto dX10_passing_109 (tgt := 2) (by decide) (J_weak [jR 96, jI (x1 + 1), jN, jN, jN, jN] ⟨Or.inr rfl, Or.inr rfl, Or.inl rfl, Or.inr rfl, Or.inr rfl, Or.inr rfl, trivial⟩ (k1 c1))))) (fun c1 => (J_aload_n dX10_passing_18 rfl (J_getR (k := 21) jcl_X10 dX10_passing_19 wf_X10_43 g_96 (Nat.le_of_ble_eq_true rfl) rfl rfl (J_iload_n dX10_passing_22 rfl (J_iald dX10_passing_23 g_108 (s2 c1) (s3 c1) (J_aload_n dX10_passing_24 rfl (J_getR (k := 21) jcl_X10 dX10_passing_25 wf_X10_43 g_96 (Nat.le_of_ble_eq_true rfl) rfl rfl (J_iload_n dX10_passing_28 rfl (J_iald dX10_passing_29 g_108 (s4 c1) (s5 c1) (J_isub dX10_passing_30 (s6 c1) (J_istore_n dX10_passing_31 (Nat.le_of_ble_eq_true rfl) (J_aload_n dX10_passing_32 rfl (J_getR (k := 4) jcl_X10 dX10_passing_33 wf_X10_7 g_96 (Nat.le_of_ble_eq_true rfl) rfl rfl (J_iload_n dX10_passing_36 rfl (J_iald dX10_passing_37 g_97 (s2 c1) (s3 c1) (J_aload_n dX10_passing_38 rfl (J_getR (k := 4) jcl_X10 dX10_passing_39 wf_X10_7 g_96 (Nat.le_of_ble_eq_true rfl) rfl rfl (J_iload_n dX10_passing_42 rfl (J_iald dX10_passing_43 g_97 (s4 c1) (s5 c1) (J_isub dX10_passing_44 (s7 c1) (J_istore dX10_passing_45 (Nat.le_of_ble_eq_true rfl) (J_iload_n dX10_passing_47 rfl (J_if_ge dX10_passing_48 (tgt := 56) (by decide) (fun c2 => (k2 c1 c2)) (fun c2 => (J_iload dX10_passing_51 rfl (J_if_gt dX10_passing_53 (tgt := 65) (by decide) (fun c3 => (k3 c1 c2 c3)) (fun c3 => (k4 c1 c2 c3)))))))))))))))))))))))))))))))
theorem b_X10_passing_56 {l : Launch} {z d : Nat} {X : jX} {M : Nat → Int → Int} {Q : Option jV → jM → Prop} {x1 : Int} {x2 : Int} {x3 : Int} {x4 : Int}   (k1 : x3 ≤ 0 → J l z X (d + 2) mX10_passing (0, 0) 69 [jR 96, jI x1, jI x2, jI x3, jI x4, jN] [] (jG, M) Q) (k2 : 0 < x3 → 0 ≤ x4 → J l z X (d + 2) mX10_passing (0, 0) 69 [jR 96, jI x1, jI x2, jI x3, jI x4, jN] [] (jG, M) Q) (k3 : 0 < x3 → x4 < 0 → J l z X (d + 2) mX10_passing (0, 0) 65 [jR 96, jI x1, jI x2, jI x3, jI x4, jN] [] (jG, M) Q) : J l z X (d + 2) mX10_passing (0, 0) 56 [jR 96, jI x1, jI x2, jI x3, jI x4, jN] [] (jG, M) Q :=
  (J_iload_n dX10_passing_56 rfl (J_if_le dX10_passing_57 (tgt := 69) (by decide) (fun c1 => (k1 c1)) (fun c1 => (J_iload dX10_passing_60 rfl (J_if_ge dX10_passing_62 (tgt := 69) (by decide) (fun c2 => (k2 c1 c2)) (fun c2 => (k3 c1 c2)))))))
theorem b_X10_passing_65 {l : Launch} {z d : Nat} {X : jX} {M : Nat → Int → Int} {Q : Option jV → jM → Prop} {x1 : Int} {x2 : Int} {x3 : Int} {x4 : Int}   (k1 : J l z X (d + 2) mX10_passing (0, 0) 70 [jR 96, jI x1, jI x2, jI x3, jI x4, jN] [jI 1] (jG, M) Q) : J l z X (d + 2) mX10_passing (0, 0) 65 [jR 96, jI x1, jI x2, jI x3, jI x4, jN] [] (jG, M) Q :=
  (J_iconst dX10_passing_65 jc_1 (J_goto dX10_passing_66 (tgt := 70) (by decide) k1))
theorem b_X10_passing_69 {l : Launch} {z d : Nat} {X : jX} {M : Nat → Int → Int} {Q : Option jV → jM → Prop} {x1 : Int} {x2 : Int} {x3 : Int} {x4 : Int}   (k1 : J l z X (d + 2) mX10_passing (0, 0) 70 [jR 96, jI x1, jI x2, jI x3, jI x4, jN] [jI 0] (jG, M) Q) : J l z X (d + 2) mX10_passing (0, 0) 69 [jR 96, jI x1, jI x2, jI x3, jI x4, jN] [] (jG, M) Q :=
  (J_iconst dX10_passing_69 jc_0 k1)
theorem b_X10_passing_70 {l : Launch} {z d : Nat} {X : jX} {M : Nat → Int → Int} {Q : Option jV → jM → Prop} {x1 : Int} {x2 : Int} {x3 : Int} {x4 : Int} {t0 : Int}  (s1 : hasB (M 96 0) x1 = true → hasB (M 96 0) x2 = true → t0 ≠ 0 → jIn (10 * x1)) (s2 : hasB (M 96 0) x1 = true → hasB (M 96 0) x2 = true → t0 ≠ 0 → jIn ((10 * x1) + x2)) (k1 : hasB (M 96 0) x1 = true → hasB (M 96 0) x2 = true → t0 = 0 → J l z X (d + 2) mX10_passing (0, 0) 100 [jR 96, jI x1, jI x2, jI x3, jI x4, jI t0] [] (jG, M) Q) (k2 : hasB (M 96 0) x1 = true → hasB (M 96 0) x2 = true → t0 ≠ 0 → Q (some (jI ((10 * x1) + x2))) (jG, M)) (k3 : hasB (M 96 0) x1 = true → hasB (M 96 0) x2 = false → J l z X (d + 2) mX10_passing (0, 0) 100 [jR 96, jI x1, jI x2, jI x3, jI x4, jI t0] [] (jG, M) Q) (k4 : hasB (M 96 0) x1 = false → J l z X (d + 2) mX10_passing (0, 0) 100 [jR 96, jI x1, jI x2, jI x3, jI x4, jI t0] [] (jG, M) Q) : J l z X (d + 2) mX10_passing (0, 0) 70 [jR 96, jI x1, jI x2, jI x3, jI x4, jN] [jI t0] (jG, M) Q :=
  (J_istore dX10_passing_70 (Nat.le_of_ble_eq_true rfl) (J_aload_n dX10_passing_72 rfl (J_iload_n dX10_passing_73 rfl (J_callV (a1 := (0, 0)) (a2 := (0, 0)) (mm' := mX10_isOne) (S := []) [jI x1] md_X10_isOne im_X10_isOne se_X10_isOne dX10_passing_74 wm_X10_109 jcl_X10.1 rfl g_96 rfl rfl (Nat.le_of_ble_eq_true rfl) (Nat.le_of_ble_eq_true rfl) rfl (c_X10_isOne   (fun c1 => (J_if_eq dX10_passing_77 (tgt := 100) (by decide) (fun c => absurd c (by decide)) (fun _ => (J_aload_n dX10_passing_80 rfl (J_iload_n dX10_passing_81 rfl (J_callV (a1 := (0, 0)) (a2 := (0, 0)) (mm' := mX10_isOne) (S := []) [jI x2] md_X10_isOne im_X10_isOne se_X10_isOne dX10_passing_82 wm_X10_109 jcl_X10.1 rfl g_96 rfl rfl (Nat.le_of_ble_eq_true rfl) (Nat.le_of_ble_eq_true rfl) rfl (c_X10_isOne   (fun c2 => (J_if_eq dX10_passing_85 (tgt := 100) (by decide) (fun c => absurd c (by decide)) (fun _ => (J_iload dX10_passing_88 rfl (J_if_eq dX10_passing_90 (tgt := 100) (by decide) (fun c3 => (k1 c1 c2 c3)) (fun c3 => (J_bipush dX10_passing_93 jc_10 jb_10 (J_iload_n dX10_passing_95 rfl (J_imul dX10_passing_96 (s1 c1 c2 c3) (J_iload_n dX10_passing_97 rfl (J_iadd dX10_passing_98 (s2 c1 c2 c3) (J_iret dX10_passing_99 rfl (k2 c1 c2 c3))))))))))))) (fun c2 => (J_if_eq dX10_passing_85 (tgt := 100) (by decide) (fun _ => (k3 c1 c2)) (fun c => absurd c (by decide))))))))))) (fun c1 => (J_if_eq dX10_passing_77 (tgt := 100) (by decide) (fun _ => (k4 c1)) (fun c => absurd c (by decide)))))))))
theorem b_X10_passing_100 {l : Launch} {z d : Nat} {X : jX} {M : Nat → Int → Int} {Q : Option jV → jM → Prop} {x1 : Int} {x2 : Int} {x3 : Int} {x4 : Int} {x5 : Int}  (s1 : jIn (x2 + 1)) (k1 : J l z X (d + 2) mX10_passing (0, 0) 12 [jR 96, jI x1, jI (x2 + 1), jN, jN, jN] [] (jG, M) Q) : J l z X (d + 2) mX10_passing (0, 0) 100 [jR 96, jI x1, jI x2, jI x3, jI x4, jI x5] [] (jG, M) Q :=
  (J_iinc dX10_passing_100 rfl jc_1 s1 (J_goto dX10_passing_103 (tgt := 12) (by decide) (J_weak [jR 96, jI x1, jI (x2 + 1), jN, jN, jN] ⟨Or.inr rfl, Or.inr rfl, Or.inr rfl, Or.inl rfl, Or.inl rfl, Or.inl rfl, trivial⟩ k1)))
theorem b_X10_passMorning_0 {l : Launch} {z d : Nat} {X : jX} {M : Nat → Int → Int} {Q : Option jV → jM → Prop}    (k1 : J l z X (d + 3) mX10_passMorning (0, 0) 2 [jR 96, jI 0] [] (jG, M) Q) : J l z X (d + 3) mX10_passMorning (0, 0) 0 [jR 96, jN] [] (jG, M) Q :=
  (J_iconst dX10_passMorning_0 jc_0 (J_istore_n dX10_passMorning_1 (Nat.le_of_ble_eq_true rfl) k1))
theorem b_X10_passMorning_2 {l : Launch} {z d : Nat} {X : jX} {M : Nat → Int → Int} {Q : Option jV → jM → Prop} {x1 : Int}  (s1 : x1 < 6 → 0 ≤ x1) (s2 : x1 < 6 → x1 < 6) (s3 : x1 < 6 → hasB ((jupd M 108 x1 (M 97 x1)) 96 0) x1 = true → 0 ≤ x1) (s4 : x1 < 6 → hasB ((jupd M 108 x1 (M 97 x1)) 96 0) x1 = true → x1 < 6) (s5 : x1 < 6 → hasB ((jupd M 108 x1 (M 97 x1)) 96 0) x1 = true → (0 ≤ x1 ∧ x1 < 6) ∧ (-1000 ≤ ((jupd M 108 x1 (M 97 x1)) 97 x1) ∧ ((jupd M 108 x1 (M 97 x1)) 97 x1) ≤ 1000) ∧ (0 ≤ ((jupd M 108 x1 (M 97 x1)) 98 x1) ∧ ((jupd M 108 x1 (M 97 x1)) 98 x1) ≤ 9)) (s6 : x1 < 6 → hasB ((jupd M 108 x1 (M 97 x1)) 96 0) x1 = false → 0 ≤ x1) (s7 : x1 < 6 → hasB ((jupd M 108 x1 (M 97 x1)) 96 0) x1 = false → x1 < 6) (k1 : 6 ≤ x1 → (M 96 3) ≠ 1 → J l z X (d + 3) mX10_passMorning (0, 0) 90 [jR 96, jI x1] [jI 0, jR 96] (jG, M) Q) (k2 : 6 ≤ x1 → (M 96 3) = 1 → J l z X (d + 3) mX10_passMorning (0, 0) 90 [jR 96, jI x1] [jI (M 96 2), jR 96] (jG, M) Q) (k3 : x1 < 6 → hasB ((jupd M 108 x1 (M 97 x1)) 96 0) x1 = true → J l z X (d + 3) mX10_passMorning (0, 0) 59 [jR 96, jI x1] [jI (agF ((jupd M 108 x1 (M 97 x1)) 98 x1) ((jupd M 108 x1 (M 97 x1)) 99 x1) ((jupd M 108 x1 (M 97 x1)) 97 x1) ((jupd M 108 x1 (M 97 x1)) 100 x1)), jI x1, jR 97] (jG, (jupd M 108 x1 (M 97 x1))) Q) (k4 : x1 < 6 → hasB ((jupd M 108 x1 (M 97 x1)) 96 0) x1 = false → J l z X (d + 3) mX10_passMorning (0, 0) 59 [jR 96, jI x1] [jI ((jupd M 108 x1 (M 97 x1)) 97 x1), jI x1, jR 97] (jG, (jupd M 108 x1 (M 97 x1))) Q) : J l z X (d + 3) mX10_passMorning (0, 0) 2 [jR 96, jI x1] [] (jG, M) Q :=
  (J_iload_n dX10_passMorning_2 rfl (J_bipush dX10_passMorning_3 jc_6 jb_6 (J_icmp_ge dX10_passMorning_5 (tgt := 73) (by decide) (fun c1 => (J_aload_n dX10_passMorning_73 rfl (J_aload_n dX10_passMorning_74 rfl (J_getI (k := 3) (kz := 3) jcl_X10 dX10_passMorning_75 wf_X10_89 g_96 (Nat.le_of_ble_eq_true rfl) rfl rfl (J_iconst dX10_passMorning_78 jc_1 (J_icmp_ne dX10_passMorning_79 (tgt := 89) (by decide) (fun c2 => (J_iconst dX10_passMorning_89 jc_0 (k1 c1 c2))) (fun c2 => (J_aload_n dX10_passMorning_82 rfl (J_getI (k := 2) (kz := 2) jcl_X10 dX10_passMorning_83 wf_X10_85 g_96 (Nat.le_of_ble_eq_true rfl) rfl rfl (J_goto dX10_passMorning_86 (tgt := 90) (by decide) (k2 c1 c2))))))))))) (fun c1 => (J_aload_n dX10_passMorning_8 rfl (J_getR (k := 21) jcl_X10 dX10_passMorning_9 wf_X10_43 g_96 (Nat.le_of_ble_eq_true rfl) rfl rfl (J_iload_n dX10_passMorning_12 rfl (J_aload_n dX10_passMorning_13 rfl (J_getR (k := 4) jcl_X10 dX10_passMorning_14 wf_X10_7 g_96 (Nat.le_of_ble_eq_true rfl) rfl rfl (J_iload_n dX10_passMorning_17 rfl (J_iald dX10_passMorning_18 g_97 (s1 c1) (s2 c1) (J_iast dX10_passMorning_19 g_108 (s1 c1) (s2 c1) (J_aload_n dX10_passMorning_20 rfl (J_getR (k := 4) jcl_X10 dX10_passMorning_21 wf_X10_7 g_96 (Nat.le_of_ble_eq_true rfl) rfl rfl (J_iload_n dX10_passMorning_24 rfl (J_aload_n dX10_passMorning_25 rfl (J_iload_n dX10_passMorning_26 rfl (J_callV (a1 := (0, 0)) (a2 := (0, 0)) (mm' := mX10_isOne) (S := [jI x1, jR 97]) [jI x1] md_X10_isOne im_X10_isOne se_X10_isOne dX10_passMorning_27 wm_X10_109 jcl_X10.1 rfl g_96 rfl rfl (Nat.le_of_ble_eq_true rfl) (Nat.le_of_ble_eq_true rfl) rfl (c_X10_isOne   (fun c3 => (J_if_eq dX10_passMorning_30 (tgt := 53) (by decide) (fun c => absurd c (by decide)) (fun _ => (J_aload_n dX10_passMorning_33 rfl (J_iload_n dX10_passMorning_34 rfl (J_aload_n dX10_passMorning_35 rfl (J_getR (k := 4) jcl_X10 dX10_passMorning_36 wf_X10_7 g_96 (Nat.le_of_ble_eq_true rfl) rfl rfl (J_iload_n dX10_passMorning_39 rfl (J_iald dX10_passMorning_40 g_97 (s3 c1 c3) (s4 c1 c3) (J_aload_n dX10_passMorning_41 rfl (J_getR (k := 7) jcl_X10 dX10_passMorning_42 wf_X10_19 g_96 (Nat.le_of_ble_eq_true rfl) rfl rfl (J_iload_n dX10_passMorning_45 rfl (J_iald dX10_passMorning_46 g_100 (s3 c1 c3) (s4 c1 c3) (J_callV (a1 := (0, 0)) (a2 := (0, 0)) (mm' := mX10_lookBehind) (S := [jI x1, jR 97]) [jI x1, jI ((jupd M 108 x1 (M 97 x1)) 97 x1), jI ((jupd M 108 x1 (M 97 x1)) 100 x1)] md_X10_lookBehind im_X10_lookBehind se_X10_lookBehind dX10_passMorning_47 wm_X10_147 jcl_X10.1 rfl g_96 rfl rfl (Nat.le_of_ble_eq_true rfl) (Nat.le_of_ble_eq_true rfl) rfl (c_X10_lookBehind  (s5 c1 c3) (J_goto dX10_passMorning_50 (tgt := 59) (by decide) (k3 c1 c3))))))))))))))))) (fun c3 => (J_if_eq dX10_passMorning_30 (tgt := 53) (by decide) (fun _ => (J_aload_n dX10_passMorning_53 rfl (J_getR (k := 4) jcl_X10 dX10_passMorning_54 wf_X10_7 g_96 (Nat.le_of_ble_eq_true rfl) rfl rfl (J_iload_n dX10_passMorning_57 rfl (J_iald dX10_passMorning_58 g_97 (s6 c1 c3) (s7 c1 c3) (k4 c1 c3)))))) (fun c => absurd c (by decide)))))))))))))))))))))))
theorem b_X10_passMorning_59 {l : Launch} {z d : Nat} {X : jX} {M : Nat → Int → Int} {Q : Option jV → jM → Prop} {x1 : Int} {t1 : Int} {t2 : Int}  (s1 : 0 ≤ t1) (s2 : t1 < 6) (s3 : 0 ≤ x1) (s4 : x1 < 6) (s5 : jIn (x1 + 1)) (k1 : J l z X (d + 3) mX10_passMorning (0, 0) 2 [jR 96, jI (x1 + 1)] [] (jG, (jupd (jupd M 97 t1 t2) 100 x1 0)) Q) : J l z X (d + 3) mX10_passMorning (0, 0) 59 [jR 96, jI x1] [jI t2, jI t1, jR 97] (jG, M) Q :=
  (J_iast dX10_passMorning_59 g_97 s1 s2 (J_aload_n dX10_passMorning_60 rfl (J_getR (k := 7) jcl_X10 dX10_passMorning_61 wf_X10_19 g_96 (Nat.le_of_ble_eq_true rfl) rfl rfl (J_iload_n dX10_passMorning_64 rfl (J_iconst dX10_passMorning_65 jc_0 (J_iast dX10_passMorning_66 g_100 s3 s4 (J_iinc dX10_passMorning_67 rfl jc_1 s5 (J_goto dX10_passMorning_70 (tgt := 2) (by decide) k1))))))))
theorem b_X10_passMorning_90 {l : Launch} {z d : Nat} {X : jX} {M : Nat → Int → Int} {Q : Option jV → jM → Prop} {x1 : Int} {t1 : Int}   (k1 : J l z X (d + 2) mX10_passing (0, 0) 0 [jR 96, jN, jN, jN, jN, jN] [] (jG, (jupd M 96 1 t1)) (fun r μ => J l z X (d + 3) mX10_passMorning (0, 0) 97 [jR 96, jI x1] (r.toList ++ []) μ Q)) : J l z X (d + 3) mX10_passMorning (0, 0) 90 [jR 96, jI x1] [jI t1, jR 96] (jG, M) Q :=
  (J_putI (k := 1) (kz := 1) jcl_X10 dX10_passMorning_90 wf_X10_117 g_96 (Nat.le_of_ble_eq_true rfl) rfl rfl rfl (J_aload_n dX10_passMorning_93 rfl (J_callV (a1 := (0, 0)) (a2 := (0, 0)) (mm' := mX10_passing) (S := []) [] md_X10_passing im_X10_passing se_X10_passing dX10_passMorning_94 wm_X10_151 jcl_X10.1 rfl g_96 rfl rfl (Nat.le_of_ble_eq_true rfl) (Nat.le_of_ble_eq_true rfl) rfl k1)))
theorem b_X10_passMorning_97 {l : Launch} {z d : Nat} {X : jX} {M : Nat → Int → Int} {Q : Option jV → jM → Prop} {x1 : Int} {t0 : Int}   (k1 : t0 < 0 → J l z X (d + 3) mX10_passMorning (0, 0) 122 [jR 96, jI t0] [] (jG, M) Q) (k2 : 0 ≤ t0 → 0 ≤ (M 96 18) → J l z X (d + 3) mX10_passMorning (0, 0) 122 [jR 96, jI t0] [] (jG, M) Q) (k3 : 0 ≤ t0 → (M 96 18) < 0 → J l z X (d + 3) mX10_passMorning (0, 0) 122 [jR 96, jI t0] [] (jG, (jupd (jupd M 96 18 (M 96 17)) 96 19 t0)) Q) : J l z X (d + 3) mX10_passMorning (0, 0) 97 [jR 96, jI x1] [jI t0] (jG, M) Q :=
  (J_istore_n dX10_passMorning_97 (Nat.le_of_ble_eq_true rfl) (J_iload_n dX10_passMorning_98 rfl (J_if_lt dX10_passMorning_99 (tgt := 122) (by decide) (fun c1 => (k1 c1)) (fun c1 => (J_aload_n dX10_passMorning_102 rfl (J_getI (k := 18) (kz := 18) jcl_X10 dX10_passMorning_103 wf_X10_155 g_96 (Nat.le_of_ble_eq_true rfl) rfl rfl (J_if_ge dX10_passMorning_106 (tgt := 122) (by decide) (fun c2 => (k2 c1 c2)) (fun c2 => (J_aload_n dX10_passMorning_109 rfl (J_aload_n dX10_passMorning_110 rfl (J_getI (k := 17) (kz := 17) jcl_X10 dX10_passMorning_111 wf_X10_158 g_96 (Nat.le_of_ble_eq_true rfl) rfl rfl (J_putI (k := 18) (kz := 18) jcl_X10 dX10_passMorning_114 wf_X10_155 g_96 (Nat.le_of_ble_eq_true rfl) rfl rfl rfl (J_aload_n dX10_passMorning_117 rfl (J_iload_n dX10_passMorning_118 rfl (J_putI (k := 19) (kz := 19) jcl_X10 dX10_passMorning_119 wf_X10_161 g_96 (Nat.le_of_ble_eq_true rfl) rfl rfl rfl (k3 c1 c2))))))))))))))))
theorem b_X10_passMorning_122 {l : Launch} {z d : Nat} {X : jX} {M : Nat → Int → Int} {Q : Option jV → jM → Prop} {x1 : Int}   (k1 : J l z X (d + 2) mX10_oldestNow (0, 0) 0 [jR 96, jN, jN] [] (jG, M) (fun r μ => J l z X (d + 3) mX10_passMorning (0, 0) 134 [jR 96, jI x1] (r.toList ++ [jI (M 96 17), jR 107]) μ Q)) : J l z X (d + 3) mX10_passMorning (0, 0) 122 [jR 96, jI x1] [] (jG, M) Q :=
  (J_aload_n dX10_passMorning_122 rfl (J_getR (k := 20) jcl_X10 dX10_passMorning_123 wf_X10_40 g_96 (Nat.le_of_ble_eq_true rfl) rfl rfl (J_aload_n dX10_passMorning_126 rfl (J_getI (k := 17) (kz := 17) jcl_X10 dX10_passMorning_127 wf_X10_158 g_96 (Nat.le_of_ble_eq_true rfl) rfl rfl (J_aload_n dX10_passMorning_130 rfl (J_callV (a1 := (0, 0)) (a2 := (0, 0)) (mm' := mX10_oldestNow) (S := [jI (M 96 17), jR 107]) [] md_X10_oldestNow im_X10_oldestNow se_X10_oldestNow dX10_passMorning_131 wm_X10_164 jcl_X10.1 rfl g_96 rfl rfl (Nat.le_of_ble_eq_true rfl) (Nat.le_of_ble_eq_true rfl) rfl k1))))))
theorem b_X10_passMorning_134 {l : Launch} {z d : Nat} {X : jX} {M : Nat → Int → Int} {Q : Option jV → jM → Prop} {x1 : Int} {t1 : Int} {t2 : Int}  (s1 : 0 ≤ t1) (s2 : t1 < 100) (s3 : jIn (((jupd M 107 t1 t2) 96 17) + 1)) (k1 : Q none (jG, (jupd (jupd M 107 t1 t2) 96 17 (((jupd M 107 t1 t2) 96 17) + 1)))) : J l z X (d + 3) mX10_passMorning (0, 0) 134 [jR 96, jI x1] [jI t2, jI t1, jR 107] (jG, M) Q :=
  (J_iast dX10_passMorning_134 g_107 s1 s2 (J_aload_n dX10_passMorning_135 rfl (J_dupR dX10_passMorning_136 (J_getI (k := 17) (kz := 17) jcl_X10 dX10_passMorning_137 wf_X10_158 g_96 (Nat.le_of_ble_eq_true rfl) rfl rfl (J_iconst dX10_passMorning_140 jc_1 (J_iadd dX10_passMorning_141 s3 (J_putI (k := 17) (kz := 17) jcl_X10 dX10_passMorning_142 wf_X10_158 g_96 (Nat.le_of_ble_eq_true rfl) rfl rfl rfl (J_vret dX10_passMorning_145 rfl k1))))))))
theorem b_X10_eat_0 {l : Launch} {z d : Nat} {X : jX} {M : Nat → Int → Int} {Q : Option jV → jM → Prop} {x1 : Int} {x2 : Int}  (s1 : 0 ≤ x1) (s2 : x1 < 6) (s3 : jIn ((M 100 x1) + x2)) (s4 : jIn (((jupd M 100 x1 ((M 100 x1) + x2)) 96 1) - x2)) (k1 : Q none (jG, (jupd (jupd M 100 x1 ((M 100 x1) + x2)) 96 1 (((jupd M 100 x1 ((M 100 x1) + x2)) 96 1) - x2)))) : J l z X d mX10_eat (0, 0) 0 [jR 96, jI x1, jI x2] [] (jG, M) Q :=
  (J_aload_n dX10_eat_0 rfl (J_getR (k := 7) jcl_X10 dX10_eat_1 wf_X10_19 g_96 (Nat.le_of_ble_eq_true rfl) rfl rfl (J_iload_n dX10_eat_4 rfl (J_dup2_RI dX10_eat_5 (J_iald dX10_eat_6 g_100 s1 s2 (J_iload_n dX10_eat_7 rfl (J_iadd dX10_eat_8 s3 (J_iast dX10_eat_9 g_100 s1 s2 (J_aload_n dX10_eat_10 rfl (J_dupR dX10_eat_11 (J_getI (k := 1) (kz := 1) jcl_X10 dX10_eat_12 wf_X10_117 g_96 (Nat.le_of_ble_eq_true rfl) rfl rfl (J_iload_n dX10_eat_15 rfl (J_isub dX10_eat_16 s4 (J_putI (k := 1) (kz := 1) jcl_X10 dX10_eat_17 wf_X10_117 g_96 (Nat.le_of_ble_eq_true rfl) rfl rfl rfl (J_vret dX10_eat_20 rfl k1)))))))))))))))
theorem jsw_X10_happen_1 {l : Launch} {z d : Nat} {X : jX} {a : Nat × Nat} {L S : List jV} {μ : jM} {Q : Option jV → jM → Prop} {x : Int} (kd : (x < 0 ∨ 4 < x) → J l z X d mX10_happen a 107 L S μ Q) (k0 : x = 0 → J l z X d mX10_happen a 36 L S μ Q) (k1 : x = 1 → J l z X d mX10_happen a 45 L S μ Q) (k2 : x = 2 → J l z X d mX10_happen a 54 L S μ Q) (k3 : x = 3 → J l z X d mX10_happen a 71 L S μ Q) (k4 : x = 4 → J l z X d mX10_happen a 94 L S μ Q) : J l z X d mX10_happen a 1 L (jI x :: S) μ Q := by
  refine J_switch (T := fun k => match k with | 0 => 36 | 1 => 45 | 2 => 54 | 3 => 71 | _ => 94) dX10_happen_1 (tgt := 107) (by decide) (fun k hk => ?_) kd (fun k hk hx => ?_)
  · have hk2 : k < 5 := by omega
    revert hk2
    revert k
    intro k hk hk2
    have hall : ∀ k, k < 5 → ∃ off : Int, (#[35, 44, 53, 70, 93] : Array Int)[k]? = some off ∧ ((1 : Nat) : Int) + off = (((fun k => match k with | 0 => 36 | 1 => 45 | 2 => 54 | 3 => 71 | _ => 94 : Nat → Nat) k : Nat) : Int) := by
      intro k hk
      match k, hk with
      | 0, _ => exact ⟨35, rfl, by decide⟩
      | 1, _ => exact ⟨44, rfl, by decide⟩
      | 2, _ => exact ⟨53, rfl, by decide⟩
      | 3, _ => exact ⟨70, rfl, by decide⟩
      | 4, _ => exact ⟨93, rfl, by decide⟩
    exact hall k hk2
  · have hk2 : k < 5 := by omega
    match k, hk2, hx with
    | 0, _, hx => exact k0 (by rw [hx]; rfl)
    | 1, _, hx => exact k1 (by rw [hx]; rfl)
    | 2, _, hx => exact k2 (by rw [hx]; rfl)
    | 3, _, hx => exact k3 (by rw [hx]; rfl)
    | 4, _, hx => exact k4 (by rw [hx]; rfl)
theorem b_X10_happen_0 {l : Launch} {z d : Nat} {X : jX} {M : Nat → Int → Int} {Q : Option jV → jM → Prop} {x1 : Int} {x2 : Int} {x3 : Int}  (s1 : x1 = 3 → 0 ≤ x2) (s2 : x1 = 3 → x2 < 6) (s3 : x1 = 3 → jIn ((M 100 x2) - 1)) (s4 : x1 = 3 → 0 ≤ x3) (s5 : x1 = 3 → x3 < 6) (s6 : x1 = 3 → jIn (((jupd M 100 x2 ((M 100 x2) - 1)) 100 x3) + 1)) (s7 : x1 = 4 → jIn (1 - (M 96 3))) (k1 : (x1 < 0 ∨ 4 < x1) → J l z X (d + 3) mX10_passMorning (0, 0) 0 [jR 96, jN] [] (jG, M) (fun r μ => J l z X (d + 4) mX10_happen (0, 0) 111 [jR 96, jI x1, jI x2, jI x3] (r.toList ++ []) μ Q)) (k2 : x1 = 0 → J l z X (d + 3) mX10_eat (0, 0) 0 [jR 96, jI x2, jI 2] [] (jG, M) (fun r μ => J l z X (d + 4) mX10_happen (0, 0) 42 [jR 96, jI x1, jI x2, jI x3] (r.toList ++ []) μ Q)) (k3 : x1 = 1 → J l z X (d + 3) mX10_eat (0, 0) 0 [jR 96, jI x2, jI 1] [] (jG, M) (fun r μ => J l z X (d + 4) mX10_happen (0, 0) 51 [jR 96, jI x1, jI x2, jI x3] (r.toList ++ []) μ Q)) (k4 : x1 = 2 → J l z X (d + 4) mX10_happen (0, 0) 111 [jR 96, jI x1, jI x2, jI x3] [] (jG, (jupd M 96 0 (jand (M 96 0) (jxor (jshl 1 x2) (-1))))) Q) (k5 : x1 = 3 → J l z X (d + 4) mX10_happen (0, 0) 111 [jR 96, jI x1, jI x2, jI x3] [] (jG, (jupd (jupd M 100 x2 ((M 100 x2) - 1)) 100 x3 (((jupd M 100 x2 ((M 100 x2) - 1)) 100 x3) + 1))) Q) (k6 : x1 = 4 → J l z X (d + 4) mX10_happen (0, 0) 111 [jR 96, jI x1, jI x2, jI x3] [] (jG, (jupd M 96 3 (1 - (M 96 3)))) Q) : J l z X (d + 4) mX10_happen (0, 0) 0 [jR 96, jI x1, jI x2, jI x3] [] (jG, M) Q :=
  (J_iload_n dX10_happen_0 rfl (jsw_X10_happen_1 (fun c1 => (J_aload_n dX10_happen_107 rfl (J_callV (a1 := (0, 0)) (a2 := (0, 0)) (mm' := mX10_passMorning) (S := []) [] md_X10_passMorning im_X10_passMorning se_X10_passMorning dX10_happen_108 wm_X10_171 jcl_X10.1 rfl g_96 rfl rfl (Nat.le_of_ble_eq_true rfl) (Nat.le_of_ble_eq_true rfl) rfl (k1 c1)))) (fun c1 => (J_aload_n dX10_happen_36 rfl (J_iload_n dX10_happen_37 rfl (J_iconst dX10_happen_38 jc_2 (J_callV (a1 := (0, 0)) (a2 := (0, 0)) (mm' := mX10_eat) (S := []) [jI x2, jI 2] md_X10_eat im_X10_eat se_X10_eat dX10_happen_39 wm_X10_167 jcl_X10.1 rfl g_96 rfl rfl (Nat.le_of_ble_eq_true rfl) (Nat.le_of_ble_eq_true rfl) rfl (k2 c1)))))) (fun c1 => (J_aload_n dX10_happen_45 rfl (J_iload_n dX10_happen_46 rfl (J_iconst dX10_happen_47 jc_1 (J_callV (a1 := (0, 0)) (a2 := (0, 0)) (mm' := mX10_eat) (S := []) [jI x2, jI 1] md_X10_eat im_X10_eat se_X10_eat dX10_happen_48 wm_X10_167 jcl_X10.1 rfl g_96 rfl rfl (Nat.le_of_ble_eq_true rfl) (Nat.le_of_ble_eq_true rfl) rfl (k3 c1)))))) (fun c1 => (J_aload_n dX10_happen_54 rfl (J_dupR dX10_happen_55 (J_getI (k := 0) (kz := 0) jcl_X10 dX10_happen_56 wf_X10_98 g_96 (Nat.le_of_ble_eq_true rfl) rfl rfl (J_iconst dX10_happen_59 jc_1 (J_iload_n dX10_happen_60 rfl (J_ishl dX10_happen_61 (J_iconst dX10_happen_62 jc_m1 (J_ixor dX10_happen_63 (J_iand dX10_happen_64 (J_putI (k := 0) (kz := 0) jcl_X10 dX10_happen_65 wf_X10_98 g_96 (Nat.le_of_ble_eq_true rfl) rfl rfl rfl (J_goto dX10_happen_68 (tgt := 111) (by decide) (k4 c1))))))))))))) (fun c1 => (J_aload_n dX10_happen_71 rfl (J_getR (k := 7) jcl_X10 dX10_happen_72 wf_X10_19 g_96 (Nat.le_of_ble_eq_true rfl) rfl rfl (J_iload_n dX10_happen_75 rfl (J_dup2_RI dX10_happen_76 (J_iald dX10_happen_77 g_100 (s1 c1) (s2 c1) (J_iconst dX10_happen_78 jc_1 (J_isub dX10_happen_79 (s3 c1) (J_iast dX10_happen_80 g_100 (s1 c1) (s2 c1) (J_aload_n dX10_happen_81 rfl (J_getR (k := 7) jcl_X10 dX10_happen_82 wf_X10_19 g_96 (Nat.le_of_ble_eq_true rfl) rfl rfl (J_iload_n dX10_happen_85 rfl (J_dup2_RI dX10_happen_86 (J_iald dX10_happen_87 g_100 (s4 c1) (s5 c1) (J_iconst dX10_happen_88 jc_1 (J_iadd dX10_happen_89 (s6 c1) (J_iast dX10_happen_90 g_100 (s4 c1) (s5 c1) (J_goto dX10_happen_91 (tgt := 111) (by decide) (k5 c1))))))))))))))))))) (fun c1 => (J_aload_n dX10_happen_94 rfl (J_iconst dX10_happen_95 jc_1 (J_aload_n dX10_happen_96 rfl (J_getI (k := 3) (kz := 3) jcl_X10 dX10_happen_97 wf_X10_89 g_96 (Nat.le_of_ble_eq_true rfl) rfl rfl (J_isub dX10_happen_100 (s7 c1) (J_putI (k := 3) (kz := 3) jcl_X10 dX10_happen_101 wf_X10_89 g_96 (Nat.le_of_ble_eq_true rfl) rfl rfl rfl (J_goto dX10_happen_104 (tgt := 111) (by decide) (k6 c1)))))))))))
theorem b_X10_happen_42 {l : Launch} {z d : Nat} {X : jX} {M : Nat → Int → Int} {Q : Option jV → jM → Prop} {x1 : Int} {x2 : Int} {x3 : Int}   (k1 : J l z X (d + 4) mX10_happen (0, 0) 111 [jR 96, jI x1, jI x2, jI x3] [] (jG, M) Q) : J l z X (d + 4) mX10_happen (0, 0) 42 [jR 96, jI x1, jI x2, jI x3] [] (jG, M) Q :=
  (J_goto dX10_happen_42 (tgt := 111) (by decide) k1)
theorem b_X10_happen_51 {l : Launch} {z d : Nat} {X : jX} {M : Nat → Int → Int} {Q : Option jV → jM → Prop} {x1 : Int} {x2 : Int} {x3 : Int}   (k1 : J l z X (d + 4) mX10_happen (0, 0) 111 [jR 96, jI x1, jI x2, jI x3] [] (jG, M) Q) : J l z X (d + 4) mX10_happen (0, 0) 51 [jR 96, jI x1, jI x2, jI x3] [] (jG, M) Q :=
  (J_goto dX10_happen_51 (tgt := 111) (by decide) k1)
theorem b_X10_happen_111 {l : Launch} {z d : Nat} {X : jX} {M : Nat → Int → Int} {Q : Option jV → jM → Prop} {x1 : Int} {x2 : Int} {x3 : Int}   (k1 : Q none (jG, M)) : J l z X (d + 4) mX10_happen (0, 0) 111 [jR 96, jI x1, jI x2, jI x3] [] (jG, M) Q :=
  (J_vret dX10_happen_111 rfl k1)
theorem b_X10_keepNow_0 {l : Launch} {z d : Nat} {X : jX} {M : Nat → Int → Int} {Q : Option jV → jM → Prop}    (k1 : J l z X d mX10_keepNow (0, 0) 2 [jR 96, jI 0] [] (jG, M) Q) : J l z X d mX10_keepNow (0, 0) 0 [jR 96, jN] [] (jG, M) Q :=
  (J_iconst dX10_keepNow_0 jc_0 (J_istore_n dX10_keepNow_1 (Nat.le_of_ble_eq_true rfl) k1))
theorem b_X10_keepNow_2 {l : Launch} {z d : Nat} {X : jX} {M : Nat → Int → Int} {Q : Option jV → jM → Prop} {x1 : Int}  (s1 : x1 < 6 → 0 ≤ x1) (s2 : x1 < 6 → x1 < 6) (s3 : x1 < 6 → x1 < 15) (s4 : x1 < 6 → jIn (6 + x1)) (s5 : x1 < 6 → 0 ≤ (6 + x1)) (s6 : x1 < 6 → (6 + x1) < 15) (s7 : x1 < 6 → jIn (x1 + 1)) (k1 : 6 ≤ x1 → Q none (jG, (jupd (jupd (jupd M 109 12 (M 96 0)) 109 13 ((jupd M 109 12 (M 96 0)) 96 1)) 109 14 ((jupd (jupd M 109 12 (M 96 0)) 109 13 ((jupd M 109 12 (M 96 0)) 96 1)) 96 3)))) (k2 : x1 < 6 → J l z X d mX10_keepNow (0, 0) 2 [jR 96, jI (x1 + 1)] [] (jG, (jupd (jupd M 109 x1 (M 97 x1)) 109 (6 + x1) ((jupd M 109 x1 (M 97 x1)) 100 x1))) Q) : J l z X d mX10_keepNow (0, 0) 2 [jR 96, jI x1] [] (jG, M) Q :=
  (J_iload_n dX10_keepNow_2 rfl (J_bipush dX10_keepNow_3 jc_6 jb_6 (J_icmp_ge dX10_keepNow_5 (tgt := 41) (by decide) (fun c1 => (J_aload_n dX10_keepNow_41 rfl (J_getR (k := 22) jcl_X10 dX10_keepNow_42 wf_X10_46 g_96 (Nat.le_of_ble_eq_true rfl) rfl rfl (J_bipush dX10_keepNow_45 jc_12 jb_12 (J_aload_n dX10_keepNow_47 rfl (J_getI (k := 0) (kz := 0) jcl_X10 dX10_keepNow_48 wf_X10_98 g_96 (Nat.le_of_ble_eq_true rfl) rfl rfl (J_iast dX10_keepNow_51 g_109 (by decide) (by decide) (J_aload_n dX10_keepNow_52 rfl (J_getR (k := 22) jcl_X10 dX10_keepNow_53 wf_X10_46 g_96 (Nat.le_of_ble_eq_true rfl) rfl rfl (J_bipush dX10_keepNow_56 jc_13 jb_13 (J_aload_n dX10_keepNow_58 rfl (J_getI (k := 1) (kz := 1) jcl_X10 dX10_keepNow_59 wf_X10_117 g_96 (Nat.le_of_ble_eq_true rfl) rfl rfl (J_iast dX10_keepNow_62 g_109 (by decide) (by decide) (J_aload_n dX10_keepNow_63 rfl (J_getR (k := 22) jcl_X10 dX10_keepNow_64 wf_X10_46 g_96 (Nat.le_of_ble_eq_true rfl) rfl rfl (J_bipush dX10_keepNow_67 jc_14 jb_14 (J_aload_n dX10_keepNow_69 rfl (J_getI (k := 3) (kz := 3) jcl_X10 dX10_keepNow_70 wf_X10_89 g_96 (Nat.le_of_ble_eq_true rfl) rfl rfl (J_iast dX10_keepNow_73 g_109 (by decide) (by decide) (J_vret dX10_keepNow_74 rfl (k1 c1))))))))))))))))))))) (fun c1 => (J_aload_n dX10_keepNow_8 rfl (J_getR (k := 22) jcl_X10 dX10_keepNow_9 wf_X10_46 g_96 (Nat.le_of_ble_eq_true rfl) rfl rfl (J_iload_n dX10_keepNow_12 rfl (J_aload_n dX10_keepNow_13 rfl (J_getR (k := 4) jcl_X10 dX10_keepNow_14 wf_X10_7 g_96 (Nat.le_of_ble_eq_true rfl) rfl rfl (J_iload_n dX10_keepNow_17 rfl (J_iald dX10_keepNow_18 g_97 (s1 c1) (s2 c1) (J_iast dX10_keepNow_19 g_109 (s1 c1) (s3 c1) (J_aload_n dX10_keepNow_20 rfl (J_getR (k := 22) jcl_X10 dX10_keepNow_21 wf_X10_46 g_96 (Nat.le_of_ble_eq_true rfl) rfl rfl (J_bipush dX10_keepNow_24 jc_6 jb_6 (J_iload_n dX10_keepNow_26 rfl (J_iadd dX10_keepNow_27 (s4 c1) (J_aload_n dX10_keepNow_28 rfl (J_getR (k := 7) jcl_X10 dX10_keepNow_29 wf_X10_19 g_96 (Nat.le_of_ble_eq_true rfl) rfl rfl (J_iload_n dX10_keepNow_32 rfl (J_iald dX10_keepNow_33 g_100 (s1 c1) (s2 c1) (J_iast dX10_keepNow_34 g_109 (s5 c1) (s6 c1) (J_iinc dX10_keepNow_35 rfl jc_1 (s7 c1) (J_goto dX10_keepNow_38 (tgt := 2) (by decide) (k2 c1)))))))))))))))))))))))))
theorem b_X10_back_0 {l : Launch} {z d : Nat} {X : jX} {M : Nat → Int → Int} {Q : Option jV → jM → Prop} {x1 : Int}   (k1 : J l z X d mX10_back (0, 0) 2 [jR 96, jI x1, jI 0] [] (jG, M) Q) : J l z X d mX10_back (0, 0) 0 [jR 96, jI x1, jN] [] (jG, M) Q :=
  (J_iconst dX10_back_0 jc_0 (J_istore_n dX10_back_1 (Nat.le_of_ble_eq_true rfl) k1))
theorem b_X10_back_2 {l : Launch} {z d : Nat} {X : jX} {M : Nat → Int → Int} {Q : Option jV → jM → Prop} {x1 : Int} {x2 : Int}  (s1 : x2 < 6 → 0 ≤ x2) (s2 : x2 < 6 → x2 < 15) (s3 : x2 < 6 → x2 < 6) (s4 : x2 < 6 → jIn (6 + x2)) (s5 : x2 < 6 → 0 ≤ (6 + x2)) (s6 : x2 < 6 → (6 + x2) < 15) (s7 : x2 < 6 → jIn (x2 + 1)) (k1 : 6 ≤ x2 → Q (some (jI x1)) (jG, (jupd (jupd (jupd M 96 0 (M 109 12)) 96 1 ((jupd M 96 0 (M 109 12)) 109 13)) 96 3 ((jupd (jupd M 96 0 (M 109 12)) 96 1 ((jupd M 96 0 (M 109 12)) 109 13)) 109 14)))) (k2 : x2 < 6 → J l z X d mX10_back (0, 0) 2 [jR 96, jI x1, jI (x2 + 1)] [] (jG, (jupd (jupd M 97 x2 (M 109 x2)) 100 x2 ((jupd M 97 x2 (M 109 x2)) 109 (6 + x2)))) Q) : J l z X d mX10_back (0, 0) 2 [jR 96, jI x1, jI x2] [] (jG, M) Q :=
  (J_iload_n dX10_back_2 rfl (J_bipush dX10_back_3 jc_6 jb_6 (J_icmp_ge dX10_back_5 (tgt := 41) (by decide) (fun c1 => (J_aload_n dX10_back_41 rfl (J_aload_n dX10_back_42 rfl (J_getR (k := 22) jcl_X10 dX10_back_43 wf_X10_46 g_96 (Nat.le_of_ble_eq_true rfl) rfl rfl (J_bipush dX10_back_46 jc_12 jb_12 (J_iald dX10_back_48 g_109 (by decide) (by decide) (J_putI (k := 0) (kz := 0) jcl_X10 dX10_back_49 wf_X10_98 g_96 (Nat.le_of_ble_eq_true rfl) rfl rfl rfl (J_aload_n dX10_back_52 rfl (J_aload_n dX10_back_53 rfl (J_getR (k := 22) jcl_X10 dX10_back_54 wf_X10_46 g_96 (Nat.le_of_ble_eq_true rfl) rfl rfl (J_bipush dX10_back_57 jc_13 jb_13 (J_iald dX10_back_59 g_109 (by decide) (by decide) (J_putI (k := 1) (kz := 1) jcl_X10 dX10_back_60 wf_X10_117 g_96 (Nat.le_of_ble_eq_true rfl) rfl rfl rfl (J_aload_n dX10_back_63 rfl (J_aload_n dX10_back_64 rfl (J_getR (k := 22) jcl_X10 dX10_back_65 wf_X10_46 g_96 (Nat.le_of_ble_eq_true rfl) rfl rfl (J_bipush dX10_back_68 jc_14 jb_14 (J_iald dX10_back_70 g_109 (by decide) (by decide) (J_putI (k := 3) (kz := 3) jcl_X10 dX10_back_71 wf_X10_89 g_96 (Nat.le_of_ble_eq_true rfl) rfl rfl rfl (J_iload_n dX10_back_74 rfl (J_iret dX10_back_75 rfl (k1 c1)))))))))))))))))))))) (fun c1 => (J_aload_n dX10_back_8 rfl (J_getR (k := 4) jcl_X10 dX10_back_9 wf_X10_7 g_96 (Nat.le_of_ble_eq_true rfl) rfl rfl (J_iload_n dX10_back_12 rfl (J_aload_n dX10_back_13 rfl (J_getR (k := 22) jcl_X10 dX10_back_14 wf_X10_46 g_96 (Nat.le_of_ble_eq_true rfl) rfl rfl (J_iload_n dX10_back_17 rfl (J_iald dX10_back_18 g_109 (s1 c1) (s2 c1) (J_iast dX10_back_19 g_97 (s1 c1) (s3 c1) (J_aload_n dX10_back_20 rfl (J_getR (k := 7) jcl_X10 dX10_back_21 wf_X10_19 g_96 (Nat.le_of_ble_eq_true rfl) rfl rfl (J_iload_n dX10_back_24 rfl (J_aload_n dX10_back_25 rfl (J_getR (k := 22) jcl_X10 dX10_back_26 wf_X10_46 g_96 (Nat.le_of_ble_eq_true rfl) rfl rfl (J_bipush dX10_back_29 jc_6 jb_6 (J_iload_n dX10_back_31 rfl (J_iadd dX10_back_32 (s4 c1) (J_iald dX10_back_33 g_109 (s5 c1) (s6 c1) (J_iast dX10_back_34 g_100 (s1 c1) (s3 c1) (J_iinc dX10_back_35 rfl jc_1 (s7 c1) (J_goto dX10_back_38 (tgt := 2) (by decide) (k2 c1)))))))))))))))))))))))))
theorem b_X10_beginCount_0 {l : Launch} {z d : Nat} {X : jX} {M : Nat → Int → Int} {Q : Option jV → jM → Prop}    (k1 : Q none (jG, (jupd (jupd (jupd M 96 17 0) 96 18 (-6)) 96 19 (-6)))) : J l z X d mX10_beginCount (0, 0) 0 [jR 96] [] (jG, M) Q :=
  (J_aload_n dX10_beginCount_0 rfl (J_iconst dX10_beginCount_1 jc_0 (J_putI (k := 17) (kz := 17) jcl_X10 dX10_beginCount_2 wf_X10_158 g_96 (Nat.le_of_ble_eq_true rfl) rfl rfl rfl (J_aload_n dX10_beginCount_5 rfl (J_bipush dX10_beginCount_6 jc_m6 jb_m6 (J_putI (k := 18) (kz := 18) jcl_X10 dX10_beginCount_8 wf_X10_155 g_96 (Nat.le_of_ble_eq_true rfl) rfl rfl rfl (J_aload_n dX10_beginCount_11 rfl (J_bipush dX10_beginCount_12 jc_m6 jb_m6 (J_putI (k := 19) (kz := 19) jcl_X10 dX10_beginCount_14 wf_X10_161 g_96 (Nat.le_of_ble_eq_true rfl) rfl rfl rfl (J_vret dX10_beginCount_17 rfl k1))))))))))
theorem b_X10_goDays_0 {l : Launch} {z d : Nat} {X : jX} {M : Nat → Int → Int} {Q : Option jV → jM → Prop}    (k1 : J l z X (d + 4) mX10_beginCount (0, 0) 0 [jR 96] [] (jG, M) (fun r μ => J l z X (d + 5) mX10_goDays (0, 0) 4 [jR 96, jN, jN] (r.toList ++ []) μ Q)) : J l z X (d + 5) mX10_goDays (0, 0) 0 [jR 96, jN, jN] [] (jG, M) Q :=
  (J_aload_n dX10_goDays_0 rfl (J_callV (a1 := (0, 0)) (a2 := (0, 0)) (mm' := mX10_beginCount) (S := []) [] md_X10_beginCount im_X10_beginCount se_X10_beginCount dX10_goDays_1 wm_X10_174 jcl_X10.1 rfl g_96 rfl rfl (Nat.le_of_ble_eq_true rfl) (Nat.le_of_ble_eq_true rfl) rfl k1))
theorem b_X10_goDays_4 {l : Launch} {z d : Nat} {X : jX} {M : Nat → Int → Int} {Q : Option jV → jM → Prop}    (k1 : J l z X (d + 5) mX10_goDays (0, 0) 18 [jR 96, jI 0, jN] [] (jG, (jupd (jupd M 96 23 (-6)) 96 24 (-6))) Q) : J l z X (d + 5) mX10_goDays (0, 0) 4 [jR 96, jN, jN] [] (jG, M) Q :=
  (J_aload_n dX10_goDays_4 rfl (J_bipush dX10_goDays_5 jc_m6 jb_m6 (J_putI (k := 23) (kz := 23) jcl_X10 dX10_goDays_7 wf_X10_177 g_96 (Nat.le_of_ble_eq_true rfl) rfl rfl rfl (J_aload_n dX10_goDays_10 rfl (J_bipush dX10_goDays_11 jc_m6 jb_m6 (J_putI (k := 24) (kz := 24) jcl_X10 dX10_goDays_13 wf_X10_180 g_96 (Nat.le_of_ble_eq_true rfl) rfl rfl rfl (J_iconst dX10_goDays_16 jc_0 (J_istore_n dX10_goDays_17 (Nat.le_of_ble_eq_true rfl) k1))))))))
theorem b_X10_goDays_18 {l : Launch} {z d : Nat} {X : jX} {M : Nat → Int → Int} {Q : Option jV → jM → Prop} {x1 : Int}  (s1 : x1 < (M 96 16) → (M 96 23) < 0 → 0 ≤ x1) (s2 : x1 < (M 96 16) → (M 96 23) < 0 → x1 < 60) (k1 : (M 96 16) ≤ x1 → Q none (jG, M)) (k2 : x1 < (M 96 16) → 0 ≤ (M 96 23) → Q none (jG, M)) (k3 : x1 < (M 96 16) → (M 96 23) < 0 → J l z X (d + 4) mX10_whyNot (0, 0) 0 [jR 96, jI (M 104 x1), jI (M 105 x1), jI (M 106 x1), jN] [] (jG, M) (fun r μ => J l z X (d + 5) mX10_goDays (0, 0) 55 [jR 96, jI x1, jN] (r.toList ++ []) μ Q)) : J l z X (d + 5) mX10_goDays (0, 0) 18 [jR 96, jI x1, jN] [] (jG, M) Q :=
  (J_iload_n dX10_goDays_18 rfl (J_aload_n dX10_goDays_19 rfl (J_getI (k := 16) (kz := 16) jcl_X10 dX10_goDays_20 wf_X10_131 g_96 (Nat.le_of_ble_eq_true rfl) rfl rfl (J_icmp_ge dX10_goDays_23 (tgt := 116) (by decide) (fun c1 => (J_vret dX10_goDays_116 rfl (k1 c1))) (fun c1 => (J_aload_n dX10_goDays_26 rfl (J_getI (k := 23) (kz := 23) jcl_X10 dX10_goDays_27 wf_X10_177 g_96 (Nat.le_of_ble_eq_true rfl) rfl rfl (J_if_ge dX10_goDays_30 (tgt := 116) (by decide) (fun c2 => (J_vret dX10_goDays_116 rfl (k2 c1 c2))) (fun c2 => (J_aload_n dX10_goDays_33 rfl (J_aload_n dX10_goDays_34 rfl (J_getR (k := 13) jcl_X10 dX10_goDays_35 wf_X10_31 g_96 (Nat.le_of_ble_eq_true rfl) rfl rfl (J_iload_n dX10_goDays_38 rfl (J_iald dX10_goDays_39 g_104 (s1 c1 c2) (s2 c1 c2) (J_aload_n dX10_goDays_40 rfl (J_getR (k := 14) jcl_X10 dX10_goDays_41 wf_X10_34 g_96 (Nat.le_of_ble_eq_true rfl) rfl rfl (J_iload_n dX10_goDays_44 rfl (J_iald dX10_goDays_45 g_105 (s1 c1 c2) (s2 c1 c2) (J_aload_n dX10_goDays_46 rfl (J_getR (k := 15) jcl_X10 dX10_goDays_47 wf_X10_37 g_96 (Nat.le_of_ble_eq_true rfl) rfl rfl (J_iload_n dX10_goDays_50 rfl (J_iald dX10_goDays_51 g_106 (s1 c1 c2) (s2 c1 c2) (J_callV (a1 := (0, 0)) (a2 := (0, 0)) (mm' := mX10_whyNot) (S := []) [jI (M 104 x1), jI (M 105 x1), jI (M 106 x1)] md_X10_whyNot im_X10_whyNot se_X10_whyNot dX10_goDays_52 wm_X10_183 jcl_X10.1 rfl g_96 rfl rfl (Nat.le_of_ble_eq_true rfl) (Nat.le_of_ble_eq_true rfl) rfl (k3 c1 c2))))))))))))))))))))))))
theorem b_X10_goDays_55 {l : Launch} {z d : Nat} {X : jX} {M : Nat → Int → Int} {Q : Option jV → jM → Prop} {x1 : Int} {t0 : Int}   (k1 : t0 ≤ 0 → J l z X (d + 5) mX10_goDays (0, 0) 67 [jR 96, jI x1, jI t0] [jI (-6), jR 96] (jG, M) Q) (k2 : 0 < t0 → J l z X (d + 5) mX10_goDays (0, 0) 67 [jR 96, jI x1, jI t0] [jI x1, jR 96] (jG, M) Q) : J l z X (d + 5) mX10_goDays (0, 0) 55 [jR 96, jI x1, jN] [jI t0] (jG, M) Q :=
  (J_istore_n dX10_goDays_55 (Nat.le_of_ble_eq_true rfl) (J_aload_n dX10_goDays_56 rfl (J_iload_n dX10_goDays_57 rfl (J_if_le dX10_goDays_58 (tgt := 65) (by decide) (fun c1 => (J_bipush dX10_goDays_65 jc_m6 jb_m6 (k1 c1))) (fun c1 => (J_iload_n dX10_goDays_61 rfl (J_goto dX10_goDays_62 (tgt := 67) (by decide) (k2 c1))))))))
theorem b_X10_goDays_67 {l : Launch} {z d : Nat} {X : jX} {M : Nat → Int → Int} {Q : Option jV → jM → Prop} {x1 : Int} {x2 : Int} {t1 : Int}   (k1 : x2 ≤ 0 → J l z X (d + 5) mX10_goDays (0, 0) 81 [jR 96, jI x1, jI x2] [jI (-6), jR 96] (jG, (jupd M 96 23 t1)) Q) (k2 : 0 < x2 → J l z X (d + 5) mX10_goDays (0, 0) 81 [jR 96, jI x1, jI x2] [jI x2, jR 96] (jG, (jupd M 96 23 t1)) Q) : J l z X (d + 5) mX10_goDays (0, 0) 67 [jR 96, jI x1, jI x2] [jI t1, jR 96] (jG, M) Q :=
  (J_putI (k := 23) (kz := 23) jcl_X10 dX10_goDays_67 wf_X10_177 g_96 (Nat.le_of_ble_eq_true rfl) rfl rfl rfl (J_aload_n dX10_goDays_70 rfl (J_iload_n dX10_goDays_71 rfl (J_if_le dX10_goDays_72 (tgt := 79) (by decide) (fun c1 => (J_bipush dX10_goDays_79 jc_m6 jb_m6 (k1 c1))) (fun c1 => (J_iload_n dX10_goDays_75 rfl (J_goto dX10_goDays_76 (tgt := 81) (by decide) (k2 c1))))))))
theorem b_X10_goDays_81 {l : Launch} {z d : Nat} {X : jX} {M : Nat → Int → Int} {Q : Option jV → jM → Prop} {x1 : Int} {x2 : Int} {t1 : Int}  (s1 : x2 = 0 → 0 ≤ x1) (s2 : x2 = 0 → x1 < 60) (k1 : x2 ≠ 0 → J l z X (d + 5) mX10_goDays (0, 0) 110 [jR 96, jI x1, jI x2] [] (jG, (jupd M 96 24 t1)) Q) (k2 : x2 = 0 → J l z X (d + 4) mX10_happen (0, 0) 0 [jR 96, jI ((jupd M 96 24 t1) 104 x1), jI ((jupd M 96 24 t1) 105 x1), jI ((jupd M 96 24 t1) 106 x1)] [] (jG, (jupd M 96 24 t1)) (fun r μ => J l z X (d + 5) mX10_goDays (0, 0) 110 [jR 96, jI x1, jI x2] (r.toList ++ []) μ Q)) : J l z X (d + 5) mX10_goDays (0, 0) 81 [jR 96, jI x1, jI x2] [jI t1, jR 96] (jG, M) Q :=
  (J_putI (k := 24) (kz := 24) jcl_X10 dX10_goDays_81 wf_X10_180 g_96 (Nat.le_of_ble_eq_true rfl) rfl rfl rfl (J_iload_n dX10_goDays_84 rfl (J_if_ne dX10_goDays_85 (tgt := 110) (by decide) (fun c1 => (k1 c1)) (fun c1 => (J_aload_n dX10_goDays_88 rfl (J_aload_n dX10_goDays_89 rfl (J_getR (k := 13) jcl_X10 dX10_goDays_90 wf_X10_31 g_96 (Nat.le_of_ble_eq_true rfl) rfl rfl (J_iload_n dX10_goDays_93 rfl (J_iald dX10_goDays_94 g_104 (s1 c1) (s2 c1) (J_aload_n dX10_goDays_95 rfl (J_getR (k := 14) jcl_X10 dX10_goDays_96 wf_X10_34 g_96 (Nat.le_of_ble_eq_true rfl) rfl rfl (J_iload_n dX10_goDays_99 rfl (J_iald dX10_goDays_100 g_105 (s1 c1) (s2 c1) (J_aload_n dX10_goDays_101 rfl (J_getR (k := 15) jcl_X10 dX10_goDays_102 wf_X10_37 g_96 (Nat.le_of_ble_eq_true rfl) rfl rfl (J_iload_n dX10_goDays_105 rfl (J_iald dX10_goDays_106 g_106 (s1 c1) (s2 c1) (J_callV (a1 := (0, 0)) (a2 := (0, 0)) (mm' := mX10_happen) (S := []) [jI ((jupd M 96 24 t1) 104 x1), jI ((jupd M 96 24 t1) 105 x1), jI ((jupd M 96 24 t1) 106 x1)] md_X10_happen im_X10_happen se_X10_happen dX10_goDays_107 wm_X10_186 jcl_X10.1 rfl g_96 rfl rfl (Nat.le_of_ble_eq_true rfl) (Nat.le_of_ble_eq_true rfl) rfl (k2 c1)))))))))))))))))))
theorem b_X10_goDays_110 {l : Launch} {z d : Nat} {X : jX} {M : Nat → Int → Int} {Q : Option jV → jM → Prop} {x1 : Int} {x2 : Int}  (s1 : jIn (x1 + 1)) (k1 : J l z X (d + 5) mX10_goDays (0, 0) 18 [jR 96, jI (x1 + 1), jN] [] (jG, M) Q) : J l z X (d + 5) mX10_goDays (0, 0) 110 [jR 96, jI x1, jI x2] [] (jG, M) Q :=
  (J_iinc dX10_goDays_110 rfl jc_1 s1 (J_goto dX10_goDays_113 (tgt := 18) (by decide) (J_weak [jR 96, jI (x1 + 1), jN] ⟨Or.inr rfl, Or.inr rfl, Or.inl rfl, trivial⟩ k1)))
theorem b_X10_refusal_0 {l : Launch} {z d : Nat} {X : jX} {M : Nat → Int → Int} {Q : Option jV → jM → Prop}    (k1 : J l z X (d + 5) mX10_keepNow (0, 0) 0 [jR 96, jN] [] (jG, M) (fun r μ => J l z X (d + 6) mX10_refusal (0, 0) 4 [jR 96] (r.toList ++ []) μ Q)) : J l z X (d + 6) mX10_refusal (0, 0) 0 [jR 96] [] (jG, M) Q :=
  (J_aload_n dX10_refusal_0 rfl (J_callV (a1 := (0, 0)) (a2 := (0, 0)) (mm' := mX10_keepNow) (S := []) [] md_X10_keepNow im_X10_keepNow se_X10_keepNow dX10_refusal_1 wm_X10_190 jcl_X10.1 rfl g_96 rfl rfl (Nat.le_of_ble_eq_true rfl) (Nat.le_of_ble_eq_true rfl) rfl k1))
theorem b_X10_refusal_4 {l : Launch} {z d : Nat} {X : jX} {M : Nat → Int → Int} {Q : Option jV → jM → Prop}    (k1 : J l z X (d + 5) mX10_fault (0, 0) 0 [jR 96, jN, jN] [] (jG, M) (fun r μ => J l z X (d + 6) mX10_refusal (0, 0) 8 [jR 96] (r.toList ++ []) μ Q)) : J l z X (d + 6) mX10_refusal (0, 0) 4 [jR 96] [] (jG, M) Q :=
  (J_aload_n dX10_refusal_4 rfl (J_callV (a1 := (0, 0)) (a2 := (0, 0)) (mm' := mX10_fault) (S := []) [] md_X10_fault im_X10_fault se_X10_fault dX10_refusal_5 wm_X10_193 jcl_X10.1 rfl g_96 rfl rfl (Nat.le_of_ble_eq_true rfl) (Nat.le_of_ble_eq_true rfl) rfl k1))
theorem b_X10_refusal_8 {l : Launch} {z d : Nat} {X : jX} {M : Nat → Int → Int} {Q : Option jV → jM → Prop} {t0 : Int}   (k1 : t0 < 0 → J l z X (d + 5) mX10_goDays (0, 0) 0 [jR 96, jN, jN] [] (jG, M) (fun r μ => J l z X (d + 6) mX10_refusal (0, 0) 18 [jR 96] (r.toList ++ []) μ Q)) (k2 : 0 ≤ t0 → Q (some (jI (-5))) (jG, M)) : J l z X (d + 6) mX10_refusal (0, 0) 8 [jR 96] [jI t0] (jG, M) Q :=
  (J_if_lt dX10_refusal_8 (tgt := 14) (by decide) (fun c1 => (J_aload_n dX10_refusal_14 rfl (J_callV (a1 := (0, 0)) (a2 := (0, 0)) (mm' := mX10_goDays) (S := []) [] md_X10_goDays im_X10_goDays se_X10_goDays dX10_refusal_15 wm_X10_196 jcl_X10.1 rfl g_96 rfl rfl (Nat.le_of_ble_eq_true rfl) (Nat.le_of_ble_eq_true rfl) rfl (k1 c1)))) (fun c1 => (J_bipush dX10_refusal_11 jc_m5 jb_m5 (J_iret dX10_refusal_13 rfl (k2 c1)))))
theorem b_X10_refusal_18 {l : Launch} {z d : Nat} {X : jX} {M : Nat → Int → Int} {Q : Option jV → jM → Prop}    (k1 : (M 96 23) < 0 → Q (some (jI (-6))) (jG, M)) (k2 : 0 ≤ (M 96 23) → Q (some (jI (-3))) (jG, M)) : J l z X (d + 6) mX10_refusal (0, 0) 18 [jR 96] [] (jG, M) Q :=
  (J_aload_n dX10_refusal_18 rfl (J_getI (k := 23) (kz := 23) jcl_X10 dX10_refusal_19 wf_X10_177 g_96 (Nat.le_of_ble_eq_true rfl) rfl rfl (J_if_lt dX10_refusal_22 (tgt := 30) (by decide) (fun c1 => (J_bipush dX10_refusal_30 jc_m6 jb_m6 (J_iret dX10_refusal_32 rfl (k1 c1)))) (fun c1 => (J_bipush dX10_refusal_25 jc_m3 jb_m3 (J_goto dX10_refusal_27 (tgt := 32) (by decide) (J_iret dX10_refusal_32 rfl (k2 c1))))))))
theorem b_X10_judge_0 {l : Launch} {z d : Nat} {X : jX} {M : Nat → Int → Int} {Q : Option jV → jM → Prop} {x1 : Int}   (k1 : 0 ≤ x1 ∧ x1 ≤ 2 → J l z X (d + 6) mX10_refusal (0, 0) 0 [jR 96] [] (jG, M) (fun r μ => J l z X (d + 7) mX10_judge (0, 0) 20 [jR 96, jI x1, jN] (r.toList ++ [jR 96]) μ Q)) (k2 : ¬ (0 ≤ x1 ∧ x1 ≤ 2) → Q (some (jI (-2))) (jG, M)) : J l z X (d + 7) mX10_judge (0, 0) 0 [jR 96, jI x1, jN] [] (jG, M) Q :=
  (J_iload_n dX10_judge_0 rfl (J_i2l dX10_judge_1 (J_lconst dX10_judge_2 jlc_0 jlv_0 (J_ldc2 dX10_judge_3 (lw_X10_113) lcl_X10_113 rfl (J_callS (a1 := (0, 0)) (a2 := (0, 0)) (mm' := mX10_in) (S := []) [jL x1, jL 0, jL 2] md_X10_in is_X10_in dX10_judge_6 wm_X10_94 rfl rfl (Nat.le_of_ble_eq_true rfl) (Nat.le_of_ble_eq_true rfl) rfl (c_X10_in   (fun c1 => (J_if_ne dX10_judge_9 (tgt := 15) (by decide) (fun _ => (J_aload_n dX10_judge_15 rfl (J_aload_n dX10_judge_16 rfl (J_callV (a1 := (0, 0)) (a2 := (0, 0)) (mm' := mX10_refusal) (S := [jR 96]) [] md_X10_refusal im_X10_refusal se_X10_refusal dX10_judge_17 wm_X10_199 jcl_X10.1 rfl g_96 rfl rfl (Nat.le_of_ble_eq_true rfl) (Nat.le_of_ble_eq_true rfl) rfl (k1 c1))))) (fun c => absurd c (by decide)))) (fun c1 => (J_if_ne dX10_judge_9 (tgt := 15) (by decide) (fun c => absurd c (by decide)) (fun _ => (J_bipush dX10_judge_12 jc_m2 jb_m2 (J_iret dX10_judge_14 rfl (k2 c1))))))))))))
theorem b_X10_judge_20 {l : Launch} {z d : Nat} {X : jX} {M : Nat → Int → Int} {Q : Option jV → jM → Prop} {x1 : Int} {t1 : Int}   (k1 : J l z X (d + 6) mX10_back (0, 0) 0 [jR 96, jI t1, jN] [] (jG, M) (fun r μ => J l z X (d + 7) mX10_judge (0, 0) 23 [jR 96, jI x1, jN] (r.toList ++ []) μ Q)) : J l z X (d + 7) mX10_judge (0, 0) 20 [jR 96, jI x1, jN] [jI t1, jR 96] (jG, M) Q :=
  (J_callV (a1 := (0, 0)) (a2 := (0, 0)) (mm' := mX10_back) (S := []) [jI t1] md_X10_back im_X10_back se_X10_back dX10_judge_20 wm_X10_202 jcl_X10.1 rfl g_96 rfl rfl (Nat.le_of_ble_eq_true rfl) (Nat.le_of_ble_eq_true rfl) rfl k1)
theorem b_X10_judge_23 {l : Launch} {z d : Nat} {X : jX} {M : Nat → Int → Int} {Q : Option jV → jM → Prop} {x1 : Int} {t0 : Int}   (k1 : t0 = (-5) → Q (some (jI t0)) (jG, M)) (k2 : t0 ≠ (-5) → x1 ≤ 1 → J l z X (d + 7) mX10_judge (0, 0) 43 [jR 96, jI x1, jI t0] [] (jG, M) Q) (k3 : t0 ≠ (-5) → 1 < x1 → t0 ≠ (-3) → J l z X (d + 7) mX10_judge (0, 0) 43 [jR 96, jI x1, jI t0] [] (jG, M) Q) (k4 : t0 ≠ (-5) → 1 < x1 → t0 = (-3) → Q (some (jI t0)) (jG, M)) : J l z X (d + 7) mX10_judge (0, 0) 23 [jR 96, jI x1, jN] [jI t0] (jG, M) Q :=
  (J_istore_n dX10_judge_23 (Nat.le_of_ble_eq_true rfl) (J_iload_n dX10_judge_24 rfl (J_bipush dX10_judge_25 jc_m5 jb_m5 (J_icmp_eq dX10_judge_27 (tgt := 41) (by decide) (fun c1 => (J_iload_n dX10_judge_41 rfl (J_iret dX10_judge_42 rfl (k1 c1)))) (fun c1 => (J_iload_n dX10_judge_30 rfl (J_iconst dX10_judge_31 jc_1 (J_icmp_le dX10_judge_32 (tgt := 43) (by decide) (fun c2 => (k2 c1 c2)) (fun c2 => (J_iload_n dX10_judge_35 rfl (J_bipush dX10_judge_36 jc_m3 jb_m3 (J_icmp_ne dX10_judge_38 (tgt := 43) (by decide) (fun c3 => (k3 c1 c2 c3)) (fun c3 => (J_iload_n dX10_judge_41 rfl (J_iret dX10_judge_42 rfl (k4 c1 c2 c3))))))))))))))))
theorem b_X10_judge_43 {l : Launch} {z d : Nat} {X : jX} {M : Nat → Int → Int} {Q : Option jV → jM → Prop} {x1 : Int} {x2 : Int}   (k1 : x1 ≠ 0 → x1 ≠ 1 → Q (some (jI (M 96 17))) (jG, M)) (k2 : x1 ≠ 0 → x1 = 1 → Q (some (jI (M 96 24))) (jG, M)) (k3 : x1 = 0 → Q (some (jI (M 96 23))) (jG, M)) : J l z X (d + 7) mX10_judge (0, 0) 43 [jR 96, jI x1, jI x2] [] (jG, M) Q :=
  (J_iload_n dX10_judge_43 rfl (J_if_ne dX10_judge_44 (tgt := 54) (by decide) (fun c1 => (J_iload_n dX10_judge_54 rfl (J_iconst dX10_judge_55 jc_1 (J_icmp_ne dX10_judge_56 (tgt := 66) (by decide) (fun c2 => (J_aload_n dX10_judge_66 rfl (J_getI (k := 17) (kz := 17) jcl_X10 dX10_judge_67 wf_X10_158 g_96 (Nat.le_of_ble_eq_true rfl) rfl rfl (J_iret dX10_judge_70 rfl (k1 c1 c2))))) (fun c2 => (J_aload_n dX10_judge_59 rfl (J_getI (k := 24) (kz := 24) jcl_X10 dX10_judge_60 wf_X10_180 g_96 (Nat.le_of_ble_eq_true rfl) rfl rfl (J_goto dX10_judge_63 (tgt := 70) (by decide) (J_iret dX10_judge_70 rfl (k2 c1 c2)))))))))) (fun c1 => (J_aload_n dX10_judge_47 rfl (J_getI (k := 23) (kz := 23) jcl_X10 dX10_judge_48 wf_X10_177 g_96 (Nat.le_of_ble_eq_true rfl) rfl rfl (J_goto dX10_judge_51 (tgt := 70) (by decide) (J_iret dX10_judge_70 rfl (k3 c1))))))))
theorem b_X10_behind_0 {l : Launch} {z d : Nat} {X : jX} {M : Nat → Int → Int} {Q : Option jV → jM → Prop} {x1 : Int} {x2 : Int}   (k1 : 0 ≤ x2 ∧ x2 ≤ 1 → J l z X (d + 6) mX10_refusal (0, 0) 0 [jR 96] [] (jG, M) (fun r μ => J l z X (d + 7) mX10_behind (0, 0) 17 [jR 96, jI x1, jI x2, jN, jN] (r.toList ++ []) μ Q)) (k2 : ¬ (0 ≤ x2 ∧ x2 ≤ 1) → Q (some (jI (-2))) (jG, M)) : J l z X (d + 7) mX10_behind (0, 0) 0 [jR 96, jI x1, jI x2, jN, jN] [] (jG, M) Q :=
  (J_iload_n dX10_behind_0 rfl (J_i2l dX10_behind_1 (J_lconst dX10_behind_2 jlc_0 jlv_0 (J_lconst dX10_behind_3 jlc_1 jlv_1 (J_callS (a1 := (0, 0)) (a2 := (0, 0)) (mm' := mX10_in) (S := []) [jL x2, jL 0, jL 1] md_X10_in is_X10_in dX10_behind_4 wm_X10_94 rfl rfl (Nat.le_of_ble_eq_true rfl) (Nat.le_of_ble_eq_true rfl) rfl (c_X10_in   (fun c1 => (J_if_ne dX10_behind_7 (tgt := 13) (by decide) (fun _ => (J_aload_n dX10_behind_13 rfl (J_callV (a1 := (0, 0)) (a2 := (0, 0)) (mm' := mX10_refusal) (S := []) [] md_X10_refusal im_X10_refusal se_X10_refusal dX10_behind_14 wm_X10_199 jcl_X10.1 rfl g_96 rfl rfl (Nat.le_of_ble_eq_true rfl) (Nat.le_of_ble_eq_true rfl) rfl (k1 c1)))) (fun c => absurd c (by decide)))) (fun c1 => (J_if_ne dX10_behind_7 (tgt := 13) (by decide) (fun c => absurd c (by decide)) (fun _ => (J_bipush dX10_behind_10 jc_m2 jb_m2 (J_iret dX10_behind_12 rfl (k2 c1))))))))))))
theorem b_X10_behind_17 {l : Launch} {z d : Nat} {X : jX} {M : Nat → Int → Int} {Q : Option jV → jM → Prop} {x1 : Int} {x2 : Int} {t0 : Int}   (k1 : t0 ≠ (-6) → J l z X (d + 7) mX10_behind (0, 0) 36 [jR 96, jI x1, jI x2, jI t0, jN] [] (jG, M) Q) (k2 : t0 = (-6) → hasB (M 96 0) x1 = true → J l z X (d + 7) mX10_behind (0, 0) 37 [jR 96, jI x1, jI x2, jI t0, jN] [jI 1] (jG, M) Q) (k3 : t0 = (-6) → hasB (M 96 0) x1 = false → J l z X (d + 7) mX10_behind (0, 0) 36 [jR 96, jI x1, jI x2, jI t0, jN] [] (jG, M) Q) : J l z X (d + 7) mX10_behind (0, 0) 17 [jR 96, jI x1, jI x2, jN, jN] [jI t0] (jG, M) Q :=
  (J_istore_n dX10_behind_17 (Nat.le_of_ble_eq_true rfl) (J_iload_n dX10_behind_18 rfl (J_bipush dX10_behind_19 jc_m6 jb_m6 (J_icmp_ne dX10_behind_21 (tgt := 36) (by decide) (fun c1 => (k1 c1)) (fun c1 => (J_aload_n dX10_behind_24 rfl (J_iload_n dX10_behind_25 rfl (J_callV (a1 := (0, 0)) (a2 := (0, 0)) (mm' := mX10_isOne) (S := []) [jI x1] md_X10_isOne im_X10_isOne se_X10_isOne dX10_behind_26 wm_X10_109 jcl_X10.1 rfl g_96 rfl rfl (Nat.le_of_ble_eq_true rfl) (Nat.le_of_ble_eq_true rfl) rfl (c_X10_isOne   (fun c2 => (J_if_eq dX10_behind_29 (tgt := 36) (by decide) (fun c => absurd c (by decide)) (fun _ => (J_iconst dX10_behind_32 jc_1 (J_goto dX10_behind_33 (tgt := 37) (by decide) (k2 c1 c2)))))) (fun c2 => (J_if_eq dX10_behind_29 (tgt := 36) (by decide) (fun _ => (k3 c1 c2)) (fun c => absurd c (by decide)))))))))))))
theorem b_X10_behind_36 {l : Launch} {z d : Nat} {X : jX} {M : Nat → Int → Int} {Q : Option jV → jM → Prop} {x1 : Int} {x2 : Int} {x3 : Int}   (k1 : J l z X (d + 7) mX10_behind (0, 0) 37 [jR 96, jI x1, jI x2, jI x3, jN] [jI 0] (jG, M) Q) : J l z X (d + 7) mX10_behind (0, 0) 36 [jR 96, jI x1, jI x2, jI x3, jN] [] (jG, M) Q :=
  (J_iconst dX10_behind_36 jc_0 k1)
theorem b_X10_behind_37 {l : Launch} {z d : Nat} {X : jX} {M : Nat → Int → Int} {Q : Option jV → jM → Prop} {x1 : Int} {x2 : Int} {x3 : Int} {t0 : Int}  (s1 : x3 = (-6) → t0 ≠ 0 → x2 ≠ 0 → 0 ≤ x1) (s2 : x3 = (-6) → t0 ≠ 0 → x2 ≠ 0 → x1 < 6) (s3 : x3 = (-6) → t0 ≠ 0 → x2 = 0 → 0 ≤ x1) (s4 : x3 = (-6) → t0 ≠ 0 → x2 = 0 → x1 < 6) (k1 : x3 = (-6) → t0 ≠ 0 → x2 ≠ 0 → J l z X (d + 7) mX10_behind (0, 0) 78 [jR 96, jI x1, jI x2, jI x3, jI t0] [jI (M 100 x1), jR 96] (jG, M) Q) (k2 : x3 = (-6) → t0 ≠ 0 → x2 = 0 → J l z X (d + 7) mX10_behind (0, 0) 78 [jR 96, jI x1, jI x2, jI x3, jI t0] [jI (M 97 x1), jR 96] (jG, M) Q) (k3 : x3 = (-6) → t0 = 0 → J l z X (d + 7) mX10_behind (0, 0) 78 [jR 96, jI x1, jI x2, jI x3, jI t0] [jI (-1), jR 96] (jG, M) Q) (k4 : x3 ≠ (-6) → J l z X (d + 7) mX10_behind (0, 0) 78 [jR 96, jI x1, jI x2, jI x3, jI t0] [jI x3, jR 96] (jG, M) Q) : J l z X (d + 7) mX10_behind (0, 0) 37 [jR 96, jI x1, jI x2, jI x3, jN] [jI t0] (jG, M) Q :=
  (J_istore dX10_behind_37 (Nat.le_of_ble_eq_true rfl) (J_aload_n dX10_behind_39 rfl (J_iload_n dX10_behind_40 rfl (J_bipush dX10_behind_41 jc_m6 jb_m6 (J_icmp_eq dX10_behind_43 (tgt := 50) (by decide) (fun c1 => (J_iload dX10_behind_50 rfl (J_if_ne dX10_behind_52 (tgt := 59) (by decide) (fun c2 => (J_iload_n dX10_behind_59 rfl (J_if_ne dX10_behind_60 (tgt := 72) (by decide) (fun c3 => (J_aload_n dX10_behind_72 rfl (J_getR (k := 7) jcl_X10 dX10_behind_73 wf_X10_19 g_96 (Nat.le_of_ble_eq_true rfl) rfl rfl (J_iload_n dX10_behind_76 rfl (J_iald dX10_behind_77 g_100 (s1 c1 c2 c3) (s2 c1 c2 c3) (k1 c1 c2 c3)))))) (fun c3 => (J_aload_n dX10_behind_63 rfl (J_getR (k := 4) jcl_X10 dX10_behind_64 wf_X10_7 g_96 (Nat.le_of_ble_eq_true rfl) rfl rfl (J_iload_n dX10_behind_67 rfl (J_iald dX10_behind_68 g_97 (s3 c1 c2 c3) (s4 c1 c2 c3) (J_goto dX10_behind_69 (tgt := 78) (by decide) (k2 c1 c2 c3)))))))))) (fun c2 => (J_iconst dX10_behind_55 jc_m1 (J_goto dX10_behind_56 (tgt := 78) (by decide) (k3 c1 c2))))))) (fun c1 => (J_iload_n dX10_behind_46 rfl (J_goto dX10_behind_47 (tgt := 78) (by decide) (k4 c1)))))))))
theorem b_X10_behind_78 {l : Launch} {z d : Nat} {X : jX} {M : Nat → Int → Int} {Q : Option jV → jM → Prop} {x1 : Int} {x2 : Int} {x3 : Int} {x4 : Int} {t1 : Int}   (k1 : J l z X (d + 6) mX10_back (0, 0) 0 [jR 96, jI t1, jN] [] (jG, M) (fun r μ => J l z X (d + 7) mX10_behind (0, 0) 81 [jR 96, jI x1, jI x2, jI x3, jI x4] (r.toList ++ []) μ Q)) : J l z X (d + 7) mX10_behind (0, 0) 78 [jR 96, jI x1, jI x2, jI x3, jI x4] [jI t1, jR 96] (jG, M) Q :=
  (J_callV (a1 := (0, 0)) (a2 := (0, 0)) (mm' := mX10_back) (S := []) [jI t1] md_X10_back im_X10_back se_X10_back dX10_behind_78 wm_X10_202 jcl_X10.1 rfl g_96 rfl rfl (Nat.le_of_ble_eq_true rfl) (Nat.le_of_ble_eq_true rfl) rfl k1)
theorem b_X10_behind_81 {l : Launch} {z d : Nat} {X : jX} {M : Nat → Int → Int} {Q : Option jV → jM → Prop} {x1 : Int} {x2 : Int} {x3 : Int} {x4 : Int} {t0 : Int}   (k1 : Q (some (jI t0)) (jG, M)) : J l z X (d + 7) mX10_behind (0, 0) 81 [jR 96, jI x1, jI x2, jI x3, jI x4] [jI t0] (jG, M) Q :=
  (J_iret dX10_behind_81 rfl k1)
