theorem dX1_init_0 : decode cX1_init 0 = .ok (.aload_n 0, 1) := by decide +kernel
theorem dX1_init_1 : decode cX1_init 1 = .ok (.invokespecial 3, 3) := by decide +kernel
theorem dX1_init_4 : decode cX1_init 4 = .ok (.aload_n 0, 1) := by decide +kernel
theorem dX1_init_5 : decode cX1_init 5 = .ok (.bipush 6, 2) := by decide +kernel
theorem dX1_init_7 : decode cX1_init 7 = .ok (.newarray .int, 2) := by decide +kernel
theorem dX1_init_9 : decode cX1_init 9 = .ok (.putfield 9, 3) := by decide +kernel
theorem dX1_init_12 : decode cX1_init 12 = .ok (.aload_n 0, 1) := by decide +kernel
theorem dX1_init_13 : decode cX1_init 13 = .ok (.bipush 6, 2) := by decide +kernel
theorem dX1_init_15 : decode cX1_init 15 = .ok (.newarray .int, 2) := by decide +kernel
theorem dX1_init_17 : decode cX1_init 17 = .ok (.putfield 15, 3) := by decide +kernel
theorem dX1_init_20 : decode cX1_init 20 = .ok (.aload_n 0, 1) := by decide +kernel
theorem dX1_init_21 : decode cX1_init 21 = .ok (.bipush 6, 2) := by decide +kernel
theorem dX1_init_23 : decode cX1_init 23 = .ok (.newarray .int, 2) := by decide +kernel
theorem dX1_init_25 : decode cX1_init 25 = .ok (.putfield 18, 3) := by decide +kernel
theorem dX1_init_28 : decode cX1_init 28 = .ok (.aload_n 0, 1) := by decide +kernel
theorem dX1_init_29 : decode cX1_init 29 = .ok (.bipush 6, 2) := by decide +kernel
theorem dX1_init_31 : decode cX1_init 31 = .ok (.newarray .int, 2) := by decide +kernel
theorem dX1_init_33 : decode cX1_init 33 = .ok (.putfield 21, 3) := by decide +kernel
theorem dX1_init_36 : decode cX1_init 36 = .ok (.aload_n 0, 1) := by decide +kernel
theorem dX1_init_37 : decode cX1_init 37 = .ok (.bipush 12, 2) := by decide +kernel
theorem dX1_init_39 : decode cX1_init 39 = .ok (.putfield 24, 3) := by decide +kernel
theorem dX1_init_42 : decode cX1_init 42 = .ok (.aload_n 0, 1) := by decide +kernel
theorem dX1_init_43 : decode cX1_init 43 = .ok (.iconst 1, 1) := by decide +kernel
theorem dX1_init_44 : decode cX1_init 44 = .ok (.putfield 28, 3) := by decide +kernel
theorem dX1_init_47 : decode cX1_init 47 = .ok (.return_, 1) := by decide +kernel
theorem dX1_has_0 : decode cX1_has 0 = .ok (.iload_n 1, 1) := by decide +kernel
theorem dX1_has_1 : decode cX1_has 1 = .ok (.ifCond .lt 25, 3) := by decide +kernel
theorem dX1_has_4 : decode cX1_has 4 = .ok (.iload_n 1, 1) := by decide +kernel
theorem dX1_has_5 : decode cX1_has 5 = .ok (.bipush 6, 2) := by decide +kernel
theorem dX1_has_7 : decode cX1_has 7 = .ok (.if_icmp .ge 19, 3) := by decide +kernel
theorem dX1_has_10 : decode cX1_has 10 = .ok (.aload_n 0, 1) := by decide +kernel
theorem dX1_has_11 : decode cX1_has 11 = .ok (.getfield 31, 3) := by decide +kernel
theorem dX1_has_14 : decode cX1_has 14 = .ok (.iload_n 1, 1) := by decide +kernel
theorem dX1_has_15 : decode cX1_has 15 = .ok (.ishr, 1) := by decide +kernel
theorem dX1_has_16 : decode cX1_has 16 = .ok (.iconst 1, 1) := by decide +kernel
theorem dX1_has_17 : decode cX1_has 17 = .ok (.iand, 1) := by decide +kernel
theorem dX1_has_18 : decode cX1_has 18 = .ok (.iconst 1, 1) := by decide +kernel
theorem dX1_has_19 : decode cX1_has 19 = .ok (.if_icmp .ne 7, 3) := by decide +kernel
theorem dX1_has_22 : decode cX1_has 22 = .ok (.iconst 1, 1) := by decide +kernel
theorem dX1_has_23 : decode cX1_has 23 = .ok (.goto 4, 3) := by decide +kernel
theorem dX1_has_26 : decode cX1_has 26 = .ok (.iconst 0, 1) := by decide +kernel
theorem dX1_has_27 : decode cX1_has 27 = .ok (.ireturn, 1) := by decide +kernel
theorem dX1_people_0 : decode cX1_people 0 = .ok (.aload_n 0, 1) := by decide +kernel
theorem dX1_people_1 : decode cX1_people 1 = .ok (.getfield 31, 3) := by decide +kernel
theorem dX1_people_4 : decode cX1_people 4 = .ok (.invokestatic 34, 3) := by decide +kernel
theorem dX1_people_7 : decode cX1_people 7 = .ok (.ireturn, 1) := by decide +kernel
theorem dX1_settle_0 : decode cX1_settle 0 = .ok (.iload_n 1, 1) := by decide +kernel
theorem dX1_settle_1 : decode cX1_settle 1 = .ok (.ifCond .lt 9, 3) := by decide +kernel
theorem dX1_settle_4 : decode cX1_settle 4 = .ok (.iload_n 1, 1) := by decide +kernel
theorem dX1_settle_5 : decode cX1_settle 5 = .ok (.bipush 6, 2) := by decide +kernel
theorem dX1_settle_7 : decode cX1_settle 7 = .ok (.if_icmp .lt 4, 3) := by decide +kernel
theorem dX1_settle_10 : decode cX1_settle 10 = .ok (.return_, 1) := by decide +kernel
theorem dX1_settle_11 : decode cX1_settle 11 = .ok (.aload_n 0, 1) := by decide +kernel
theorem dX1_settle_12 : decode cX1_settle 12 = .ok (.dup, 1) := by decide +kernel
theorem dX1_settle_13 : decode cX1_settle 13 = .ok (.getfield 31, 3) := by decide +kernel
theorem dX1_settle_16 : decode cX1_settle 16 = .ok (.iconst 1, 1) := by decide +kernel
theorem dX1_settle_17 : decode cX1_settle 17 = .ok (.iload_n 1, 1) := by decide +kernel
theorem dX1_settle_18 : decode cX1_settle 18 = .ok (.ishl, 1) := by decide +kernel
theorem dX1_settle_19 : decode cX1_settle 19 = .ok (.ior, 1) := by decide +kernel
theorem dX1_settle_20 : decode cX1_settle 20 = .ok (.putfield 31, 3) := by decide +kernel
theorem dX1_settle_23 : decode cX1_settle 23 = .ok (.aload_n 0, 1) := by decide +kernel
theorem dX1_settle_24 : decode cX1_settle 24 = .ok (.getfield 9, 3) := by decide +kernel
theorem dX1_settle_27 : decode cX1_settle 27 = .ok (.iload_n 1, 1) := by decide +kernel
theorem dX1_settle_28 : decode cX1_settle 28 = .ok (.iload_n 2, 1) := by decide +kernel
theorem dX1_settle_29 : decode cX1_settle 29 = .ok (.iastore, 1) := by decide +kernel
theorem dX1_settle_30 : decode cX1_settle 30 = .ok (.aload_n 0, 1) := by decide +kernel
theorem dX1_settle_31 : decode cX1_settle 31 = .ok (.getfield 15, 3) := by decide +kernel
theorem dX1_settle_34 : decode cX1_settle 34 = .ok (.iload_n 1, 1) := by decide +kernel
theorem dX1_settle_35 : decode cX1_settle 35 = .ok (.iload_n 3, 1) := by decide +kernel
theorem dX1_settle_36 : decode cX1_settle 36 = .ok (.iastore, 1) := by decide +kernel
theorem dX1_settle_37 : decode cX1_settle 37 = .ok (.aload_n 0, 1) := by decide +kernel
theorem dX1_settle_38 : decode cX1_settle 38 = .ok (.getfield 18, 3) := by decide +kernel
theorem dX1_settle_41 : decode cX1_settle 41 = .ok (.iload_n 1, 1) := by decide +kernel
theorem dX1_settle_42 : decode cX1_settle 42 = .ok (.iload 4, 2) := by decide +kernel
theorem dX1_settle_44 : decode cX1_settle 44 = .ok (.iastore, 1) := by decide +kernel
theorem dX1_settle_45 : decode cX1_settle 45 = .ok (.aload_n 0, 1) := by decide +kernel
theorem dX1_settle_46 : decode cX1_settle 46 = .ok (.getfield 21, 3) := by decide +kernel
theorem dX1_settle_49 : decode cX1_settle 49 = .ok (.iload_n 1, 1) := by decide +kernel
theorem dX1_settle_50 : decode cX1_settle 50 = .ok (.iconst 0, 1) := by decide +kernel
theorem dX1_settle_51 : decode cX1_settle 51 = .ok (.iastore, 1) := by decide +kernel
theorem dX1_settle_52 : decode cX1_settle 52 = .ok (.return_, 1) := by decide +kernel
theorem dX1_drop_0 : decode cX1_drop 0 = .ok (.aload_n 0, 1) := by decide +kernel
theorem dX1_drop_1 : decode cX1_drop 1 = .ok (.iload_n 1, 1) := by decide +kernel
theorem dX1_drop_2 : decode cX1_drop 2 = .ok (.invokevirtual 40, 3) := by decide +kernel
theorem dX1_drop_5 : decode cX1_drop 5 = .ok (.ifCond .eq 17, 3) := by decide +kernel
theorem dX1_drop_8 : decode cX1_drop 8 = .ok (.aload_n 0, 1) := by decide +kernel
theorem dX1_drop_9 : decode cX1_drop 9 = .ok (.dup, 1) := by decide +kernel
theorem dX1_drop_10 : decode cX1_drop 10 = .ok (.getfield 31, 3) := by decide +kernel
theorem dX1_drop_13 : decode cX1_drop 13 = .ok (.iconst 1, 1) := by decide +kernel
theorem dX1_drop_14 : decode cX1_drop 14 = .ok (.iload_n 1, 1) := by decide +kernel
theorem dX1_drop_15 : decode cX1_drop 15 = .ok (.ishl, 1) := by decide +kernel
theorem dX1_drop_16 : decode cX1_drop 16 = .ok (.iconst (-1), 1) := by decide +kernel
theorem dX1_drop_17 : decode cX1_drop 17 = .ok (.ixor, 1) := by decide +kernel
theorem dX1_drop_18 : decode cX1_drop 18 = .ok (.iand, 1) := by decide +kernel
theorem dX1_drop_19 : decode cX1_drop 19 = .ok (.putfield 31, 3) := by decide +kernel
theorem dX1_drop_22 : decode cX1_drop 22 = .ok (.return_, 1) := by decide +kernel
theorem dX1_takeOver_0 : decode cX1_takeOver 0 = .ok (.aload_n 1, 1) := by decide +kernel
theorem dX1_takeOver_1 : decode cX1_takeOver 1 = .ok (.getfield 9, 3) := by decide +kernel
theorem dX1_takeOver_4 : decode cX1_takeOver 4 = .ok (.iconst 0, 1) := by decide +kernel
theorem dX1_takeOver_5 : decode cX1_takeOver 5 = .ok (.aload_n 0, 1) := by decide +kernel
theorem dX1_takeOver_6 : decode cX1_takeOver 6 = .ok (.getfield 9, 3) := by decide +kernel
theorem dX1_takeOver_9 : decode cX1_takeOver 9 = .ok (.iconst 0, 1) := by decide +kernel
theorem dX1_takeOver_10 : decode cX1_takeOver 10 = .ok (.bipush 6, 2) := by decide +kernel
theorem dX1_takeOver_12 : decode cX1_takeOver 12 = .ok (.invokestatic 44, 3) := by decide +kernel
theorem dX1_takeOver_15 : decode cX1_takeOver 15 = .ok (.aload_n 1, 1) := by decide +kernel
theorem dX1_takeOver_16 : decode cX1_takeOver 16 = .ok (.getfield 15, 3) := by decide +kernel
theorem dX1_takeOver_19 : decode cX1_takeOver 19 = .ok (.iconst 0, 1) := by decide +kernel
theorem dX1_takeOver_20 : decode cX1_takeOver 20 = .ok (.aload_n 0, 1) := by decide +kernel
theorem dX1_takeOver_21 : decode cX1_takeOver 21 = .ok (.getfield 15, 3) := by decide +kernel
theorem dX1_takeOver_24 : decode cX1_takeOver 24 = .ok (.iconst 0, 1) := by decide +kernel
theorem dX1_takeOver_25 : decode cX1_takeOver 25 = .ok (.bipush 6, 2) := by decide +kernel
theorem dX1_takeOver_27 : decode cX1_takeOver 27 = .ok (.invokestatic 44, 3) := by decide +kernel
theorem dX1_takeOver_30 : decode cX1_takeOver 30 = .ok (.aload_n 1, 1) := by decide +kernel
theorem dX1_takeOver_31 : decode cX1_takeOver 31 = .ok (.getfield 18, 3) := by decide +kernel
theorem dX1_takeOver_34 : decode cX1_takeOver 34 = .ok (.iconst 0, 1) := by decide +kernel
theorem dX1_takeOver_35 : decode cX1_takeOver 35 = .ok (.aload_n 0, 1) := by decide +kernel
theorem dX1_takeOver_36 : decode cX1_takeOver 36 = .ok (.getfield 18, 3) := by decide +kernel
theorem dX1_takeOver_39 : decode cX1_takeOver 39 = .ok (.iconst 0, 1) := by decide +kernel
theorem dX1_takeOver_40 : decode cX1_takeOver 40 = .ok (.bipush 6, 2) := by decide +kernel
theorem dX1_takeOver_42 : decode cX1_takeOver 42 = .ok (.invokestatic 44, 3) := by decide +kernel
theorem dX1_takeOver_45 : decode cX1_takeOver 45 = .ok (.aload_n 1, 1) := by decide +kernel
theorem dX1_takeOver_46 : decode cX1_takeOver 46 = .ok (.getfield 21, 3) := by decide +kernel
theorem dX1_takeOver_49 : decode cX1_takeOver 49 = .ok (.iconst 0, 1) := by decide +kernel
theorem dX1_takeOver_50 : decode cX1_takeOver 50 = .ok (.aload_n 0, 1) := by decide +kernel
theorem dX1_takeOver_51 : decode cX1_takeOver 51 = .ok (.getfield 21, 3) := by decide +kernel
theorem dX1_takeOver_54 : decode cX1_takeOver 54 = .ok (.iconst 0, 1) := by decide +kernel
theorem dX1_takeOver_55 : decode cX1_takeOver 55 = .ok (.bipush 6, 2) := by decide +kernel
theorem dX1_takeOver_57 : decode cX1_takeOver 57 = .ok (.invokestatic 44, 3) := by decide +kernel
theorem dX1_takeOver_60 : decode cX1_takeOver 60 = .ok (.aload_n 0, 1) := by decide +kernel
theorem dX1_takeOver_61 : decode cX1_takeOver 61 = .ok (.aload_n 1, 1) := by decide +kernel
theorem dX1_takeOver_62 : decode cX1_takeOver 62 = .ok (.getfield 31, 3) := by decide +kernel
theorem dX1_takeOver_65 : decode cX1_takeOver 65 = .ok (.putfield 31, 3) := by decide +kernel
theorem dX1_takeOver_68 : decode cX1_takeOver 68 = .ok (.aload_n 0, 1) := by decide +kernel
theorem dX1_takeOver_69 : decode cX1_takeOver 69 = .ok (.aload_n 1, 1) := by decide +kernel
theorem dX1_takeOver_70 : decode cX1_takeOver 70 = .ok (.getfield 50, 3) := by decide +kernel
theorem dX1_takeOver_73 : decode cX1_takeOver 73 = .ok (.putfield 50, 3) := by decide +kernel
theorem dX1_takeOver_76 : decode cX1_takeOver 76 = .ok (.aload_n 0, 1) := by decide +kernel
theorem dX1_takeOver_77 : decode cX1_takeOver 77 = .ok (.aload_n 1, 1) := by decide +kernel
theorem dX1_takeOver_78 : decode cX1_takeOver 78 = .ok (.getfield 24, 3) := by decide +kernel
theorem dX1_takeOver_81 : decode cX1_takeOver 81 = .ok (.putfield 24, 3) := by decide +kernel
theorem dX1_takeOver_84 : decode cX1_takeOver 84 = .ok (.aload_n 0, 1) := by decide +kernel
theorem dX1_takeOver_85 : decode cX1_takeOver 85 = .ok (.aload_n 1, 1) := by decide +kernel
theorem dX1_takeOver_86 : decode cX1_takeOver 86 = .ok (.getfield 28, 3) := by decide +kernel
theorem dX1_takeOver_89 : decode cX1_takeOver 89 = .ok (.putfield 28, 3) := by decide +kernel
theorem dX1_takeOver_92 : decode cX1_takeOver 92 = .ok (.return_, 1) := by decide +kernel
theorem dX1_whyNot_0 : decode cX1_whyNot 0 = .ok (.iload_n 1, 1) := by decide +kernel
theorem dX1_whyNot_1 : decode cX1_whyNot 1 = .ok (.bipush 33, 2) := by decide +kernel
theorem dX1_whyNot_3 : decode cX1_whyNot 3 = .ok (.if_icmp .eq 9, 3) := by decide +kernel
theorem dX1_whyNot_6 : decode cX1_whyNot 6 = .ok (.iload_n 1, 1) := by decide +kernel
theorem dX1_whyNot_7 : decode cX1_whyNot 7 = .ok (.bipush 46, 2) := by decide +kernel
theorem dX1_whyNot_9 : decode cX1_whyNot 9 = .ok (.if_icmp .ne 5, 3) := by decide +kernel
theorem dX1_whyNot_12 : decode cX1_whyNot 12 = .ok (.iconst 0, 1) := by decide +kernel
theorem dX1_whyNot_13 : decode cX1_whyNot 13 = .ok (.ireturn, 1) := by decide +kernel
theorem dX1_whyNot_14 : decode cX1_whyNot 14 = .ok (.aload_n 0, 1) := by decide +kernel
theorem dX1_whyNot_15 : decode cX1_whyNot 15 = .ok (.iload_n 2, 1) := by decide +kernel
theorem dX1_whyNot_16 : decode cX1_whyNot 16 = .ok (.invokevirtual 40, 3) := by decide +kernel
theorem dX1_whyNot_19 : decode cX1_whyNot 19 = .ok (.ifCond .eq 17, 3) := by decide +kernel
theorem dX1_whyNot_22 : decode cX1_whyNot 22 = .ok (.iload_n 1, 1) := by decide +kernel
theorem dX1_whyNot_23 : decode cX1_whyNot 23 = .ok (.bipush 62, 2) := by decide +kernel
theorem dX1_whyNot_25 : decode cX1_whyNot 25 = .ok (.if_icmp .ne 13, 3) := by decide +kernel
theorem dX1_whyNot_28 : decode cX1_whyNot 28 = .ok (.aload_n 0, 1) := by decide +kernel
theorem dX1_whyNot_29 : decode cX1_whyNot 29 = .ok (.iload_n 3, 1) := by decide +kernel
theorem dX1_whyNot_30 : decode cX1_whyNot 30 = .ok (.invokevirtual 40, 3) := by decide +kernel
theorem dX1_whyNot_33 : decode cX1_whyNot 33 = .ok (.ifCond .ne 5, 3) := by decide +kernel
theorem dX1_whyNot_36 : decode cX1_whyNot 36 = .ok (.iconst 1, 1) := by decide +kernel
theorem dX1_whyNot_37 : decode cX1_whyNot 37 = .ok (.ireturn, 1) := by decide +kernel
theorem dX1_whyNot_38 : decode cX1_whyNot 38 = .ok (.iload_n 1, 1) := by decide +kernel
theorem dX1_whyNot_39 : decode cX1_whyNot 39 = .ok (.bipush 120, 2) := by decide +kernel
theorem dX1_whyNot_41 : decode cX1_whyNot 41 = .ok (.if_icmp .ne 5, 3) := by decide +kernel
theorem dX1_whyNot_44 : decode cX1_whyNot 44 = .ok (.iconst 0, 1) := by decide +kernel
theorem dX1_whyNot_45 : decode cX1_whyNot 45 = .ok (.ireturn, 1) := by decide +kernel
theorem dX1_whyNot_46 : decode cX1_whyNot 46 = .ok (.iload_n 1, 1) := by decide +kernel
theorem dX1_whyNot_47 : decode cX1_whyNot 47 = .ok (.bipush 62, 2) := by decide +kernel
theorem dX1_whyNot_49 : decode cX1_whyNot 49 = .ok (.if_icmp .ne 10, 3) := by decide +kernel
theorem dX1_whyNot_52 : decode cX1_whyNot 52 = .ok (.aload_n 0, 1) := by decide +kernel
theorem dX1_whyNot_53 : decode cX1_whyNot 53 = .ok (.iload_n 2, 1) := by decide +kernel
theorem dX1_whyNot_54 : decode cX1_whyNot 54 = .ok (.iload_n 3, 1) := by decide +kernel
theorem dX1_whyNot_55 : decode cX1_whyNot 55 = .ok (.invokevirtual 53, 3) := by decide +kernel
theorem dX1_whyNot_58 : decode cX1_whyNot 58 = .ok (.ireturn, 1) := by decide +kernel
theorem dX1_whyNot_59 : decode cX1_whyNot 59 = .ok (.iload_n 1, 1) := by decide +kernel
theorem dX1_whyNot_60 : decode cX1_whyNot 60 = .ok (.invokestatic 57, 3) := by decide +kernel
theorem dX1_whyNot_63 : decode cX1_whyNot 63 = .ok (.istore 4, 2) := by decide +kernel
theorem dX1_whyNot_65 : decode cX1_whyNot 65 = .ok (.aload_n 0, 1) := by decide +kernel
theorem dX1_whyNot_66 : decode cX1_whyNot 66 = .ok (.getfield 21, 3) := by decide +kernel
theorem dX1_whyNot_69 : decode cX1_whyNot 69 = .ok (.iload_n 2, 1) := by decide +kernel
theorem dX1_whyNot_70 : decode cX1_whyNot 70 = .ok (.iaload, 1) := by decide +kernel
theorem dX1_whyNot_71 : decode cX1_whyNot 71 = .ok (.iload 4, 2) := by decide +kernel
theorem dX1_whyNot_73 : decode cX1_whyNot 73 = .ok (.iadd, 1) := by decide +kernel
theorem dX1_whyNot_74 : decode cX1_whyNot 74 = .ok (.iconst 2, 1) := by decide +kernel
theorem dX1_whyNot_75 : decode cX1_whyNot 75 = .ok (.if_icmp .le 5, 3) := by decide +kernel
theorem dX1_whyNot_78 : decode cX1_whyNot 78 = .ok (.iconst 3, 1) := by decide +kernel
theorem dX1_whyNot_79 : decode cX1_whyNot 79 = .ok (.ireturn, 1) := by decide +kernel
theorem dX1_whyNot_80 : decode cX1_whyNot 80 = .ok (.aload_n 0, 1) := by decide +kernel
theorem dX1_whyNot_81 : decode cX1_whyNot 81 = .ok (.getfield 50, 3) := by decide +kernel
theorem dX1_whyNot_84 : decode cX1_whyNot 84 = .ok (.iload 4, 2) := by decide +kernel
theorem dX1_whyNot_86 : decode cX1_whyNot 86 = .ok (.if_icmp .ge 7, 3) := by decide +kernel
theorem dX1_whyNot_89 : decode cX1_whyNot 89 = .ok (.iconst 4, 1) := by decide +kernel
theorem dX1_whyNot_90 : decode cX1_whyNot 90 = .ok (.goto 4, 3) := by decide +kernel
theorem dX1_whyNot_93 : decode cX1_whyNot 93 = .ok (.iconst 0, 1) := by decide +kernel
theorem dX1_whyNot_94 : decode cX1_whyNot 94 = .ok (.ireturn, 1) := by decide +kernel
theorem dX1_whyNotGive_0 : decode cX1_whyNotGive 0 = .ok (.iload_n 1, 1) := by decide +kernel
theorem dX1_whyNotGive_1 : decode cX1_whyNotGive 1 = .ok (.iload_n 2, 1) := by decide +kernel
theorem dX1_whyNotGive_2 : decode cX1_whyNotGive 2 = .ok (.if_icmp .ne 5, 3) := by decide +kernel
theorem dX1_whyNotGive_5 : decode cX1_whyNotGive 5 = .ok (.iconst 2, 1) := by decide +kernel
theorem dX1_whyNotGive_6 : decode cX1_whyNotGive 6 = .ok (.ireturn, 1) := by decide +kernel
theorem dX1_whyNotGive_7 : decode cX1_whyNotGive 7 = .ok (.aload_n 0, 1) := by decide +kernel
theorem dX1_whyNotGive_8 : decode cX1_whyNotGive 8 = .ok (.getfield 21, 3) := by decide +kernel
theorem dX1_whyNotGive_11 : decode cX1_whyNotGive 11 = .ok (.iload_n 2, 1) := by decide +kernel
theorem dX1_whyNotGive_12 : decode cX1_whyNotGive 12 = .ok (.iaload, 1) := by decide +kernel
theorem dX1_whyNotGive_13 : decode cX1_whyNotGive 13 = .ok (.iconst 1, 1) := by decide +kernel
theorem dX1_whyNotGive_14 : decode cX1_whyNotGive 14 = .ok (.iadd, 1) := by decide +kernel
theorem dX1_whyNotGive_15 : decode cX1_whyNotGive 15 = .ok (.iconst 2, 1) := by decide +kernel
theorem dX1_whyNotGive_16 : decode cX1_whyNotGive 16 = .ok (.if_icmp .le 5, 3) := by decide +kernel
theorem dX1_whyNotGive_19 : decode cX1_whyNotGive 19 = .ok (.iconst 3, 1) := by decide +kernel
theorem dX1_whyNotGive_20 : decode cX1_whyNotGive 20 = .ok (.ireturn, 1) := by decide +kernel
theorem dX1_whyNotGive_21 : decode cX1_whyNotGive 21 = .ok (.aload_n 0, 1) := by decide +kernel
theorem dX1_whyNotGive_22 : decode cX1_whyNotGive 22 = .ok (.getfield 21, 3) := by decide +kernel
theorem dX1_whyNotGive_25 : decode cX1_whyNotGive 25 = .ok (.iload_n 1, 1) := by decide +kernel
theorem dX1_whyNotGive_26 : decode cX1_whyNotGive 26 = .ok (.iaload, 1) := by decide +kernel
theorem dX1_whyNotGive_27 : decode cX1_whyNotGive 27 = .ok (.ifCond .ne 7, 3) := by decide +kernel
theorem dX1_whyNotGive_30 : decode cX1_whyNotGive 30 = .ok (.iconst 5, 1) := by decide +kernel
theorem dX1_whyNotGive_31 : decode cX1_whyNotGive 31 = .ok (.goto 4, 3) := by decide +kernel
theorem dX1_whyNotGive_34 : decode cX1_whyNotGive 34 = .ok (.iconst 0, 1) := by decide +kernel
theorem dX1_whyNotGive_35 : decode cX1_whyNotGive 35 = .ok (.ireturn, 1) := by decide +kernel
theorem dX1_halvesOf_0 : decode cX1_halvesOf 0 = .ok (.iload_n 0, 1) := by decide +kernel
theorem dX1_halvesOf_1 : decode cX1_halvesOf 1 = .ok (.bipush 98, 2) := by decide +kernel
theorem dX1_halvesOf_3 : decode cX1_halvesOf 3 = .ok (.if_icmp .ne 7, 3) := by decide +kernel
theorem dX1_halvesOf_6 : decode cX1_halvesOf 6 = .ok (.iconst 2, 1) := by decide +kernel
theorem dX1_halvesOf_7 : decode cX1_halvesOf 7 = .ok (.goto 4, 3) := by decide +kernel
theorem dX1_halvesOf_10 : decode cX1_halvesOf 10 = .ok (.iconst 1, 1) := by decide +kernel
theorem dX1_halvesOf_11 : decode cX1_halvesOf 11 = .ok (.ireturn, 1) := by decide +kernel
theorem dX1_act_0 : decode cX1_act 0 = .ok (.aload_n 0, 1) := by decide +kernel
theorem dX1_act_1 : decode cX1_act 1 = .ok (.iload_n 1, 1) := by decide +kernel
theorem dX1_act_2 : decode cX1_act 2 = .ok (.iload_n 2, 1) := by decide +kernel
theorem dX1_act_3 : decode cX1_act 3 = .ok (.iload_n 3, 1) := by decide +kernel
theorem dX1_act_4 : decode cX1_act 4 = .ok (.invokevirtual 60, 3) := by decide +kernel
theorem dX1_act_7 : decode cX1_act 7 = .ok (.ifCond .eq 4, 3) := by decide +kernel
theorem dX1_act_10 : decode cX1_act 10 = .ok (.return_, 1) := by decide +kernel
theorem dX1_act_11 : decode cX1_act 11 = .ok (.iload_n 1, 1) := by decide +kernel
theorem dX1_act_12 : decode cX1_act 12 = .ok (.bipush 33, 2) := by decide +kernel
theorem dX1_act_14 : decode cX1_act 14 = .ok (.if_icmp .ne 16, 3) := by decide +kernel
theorem dX1_act_17 : decode cX1_act 17 = .ok (.aload_n 0, 1) := by decide +kernel
theorem dX1_act_18 : decode cX1_act 18 = .ok (.iconst 1, 1) := by decide +kernel
theorem dX1_act_19 : decode cX1_act 19 = .ok (.aload_n 0, 1) := by decide +kernel
theorem dX1_act_20 : decode cX1_act 20 = .ok (.getfield 28, 3) := by decide +kernel
theorem dX1_act_23 : decode cX1_act 23 = .ok (.isub, 1) := by decide +kernel
theorem dX1_act_24 : decode cX1_act 24 = .ok (.putfield 28, 3) := by decide +kernel
theorem dX1_act_27 : decode cX1_act 27 = .ok (.goto 109, 3) := by decide +kernel
theorem dX1_act_30 : decode cX1_act 30 = .ok (.iload_n 1, 1) := by decide +kernel
theorem dX1_act_31 : decode cX1_act 31 = .ok (.bipush 46, 2) := by decide +kernel
theorem dX1_act_33 : decode cX1_act 33 = .ok (.if_icmp .ne 10, 3) := by decide +kernel
theorem dX1_act_36 : decode cX1_act 36 = .ok (.aload_n 0, 1) := by decide +kernel
theorem dX1_act_37 : decode cX1_act 37 = .ok (.invokevirtual 64, 3) := by decide +kernel
theorem dX1_act_40 : decode cX1_act 40 = .ok (.goto 96, 3) := by decide +kernel
theorem dX1_act_43 : decode cX1_act 43 = .ok (.iload_n 1, 1) := by decide +kernel
theorem dX1_act_44 : decode cX1_act 44 = .ok (.bipush 120, 2) := by decide +kernel
theorem dX1_act_46 : decode cX1_act 46 = .ok (.if_icmp .ne 11, 3) := by decide +kernel
theorem dX1_act_49 : decode cX1_act 49 = .ok (.aload_n 0, 1) := by decide +kernel
theorem dX1_act_50 : decode cX1_act 50 = .ok (.iload_n 2, 1) := by decide +kernel
theorem dX1_act_51 : decode cX1_act 51 = .ok (.invokevirtual 67, 3) := by decide +kernel
theorem dX1_act_54 : decode cX1_act 54 = .ok (.goto 82, 3) := by decide +kernel
theorem dX1_act_57 : decode cX1_act 57 = .ok (.iload_n 1, 1) := by decide +kernel
theorem dX1_act_58 : decode cX1_act 58 = .ok (.bipush 62, 2) := by decide +kernel
theorem dX1_act_60 : decode cX1_act 60 = .ok (.if_icmp .ne 42, 3) := by decide +kernel
theorem dX1_act_63 : decode cX1_act 63 = .ok (.aload_n 0, 1) := by decide +kernel
theorem dX1_act_64 : decode cX1_act 64 = .ok (.iload_n 2, 1) := by decide +kernel
theorem dX1_act_65 : decode cX1_act 65 = .ok (.invokevirtual 40, 3) := by decide +kernel
theorem dX1_act_68 : decode cX1_act 68 = .ok (.ifCond .eq 34, 3) := by decide +kernel
theorem dX1_act_71 : decode cX1_act 71 = .ok (.aload_n 0, 1) := by decide +kernel
theorem dX1_act_72 : decode cX1_act 72 = .ok (.iload_n 3, 1) := by decide +kernel
theorem dX1_act_73 : decode cX1_act 73 = .ok (.invokevirtual 40, 3) := by decide +kernel
theorem dX1_act_76 : decode cX1_act 76 = .ok (.ifCond .eq 26, 3) := by decide +kernel
theorem dX1_act_79 : decode cX1_act 79 = .ok (.aload_n 0, 1) := by decide +kernel
theorem dX1_act_80 : decode cX1_act 80 = .ok (.getfield 21, 3) := by decide +kernel
theorem dX1_act_83 : decode cX1_act 83 = .ok (.iload_n 2, 1) := by decide +kernel
theorem dX1_act_84 : decode cX1_act 84 = .ok (.dup2, 1) := by decide +kernel
theorem dX1_act_85 : decode cX1_act 85 = .ok (.iaload, 1) := by decide +kernel
theorem dX1_act_86 : decode cX1_act 86 = .ok (.iconst 1, 1) := by decide +kernel
theorem dX1_act_87 : decode cX1_act 87 = .ok (.isub, 1) := by decide +kernel
theorem dX1_act_88 : decode cX1_act 88 = .ok (.iastore, 1) := by decide +kernel
theorem dX1_act_89 : decode cX1_act 89 = .ok (.aload_n 0, 1) := by decide +kernel
theorem dX1_act_90 : decode cX1_act 90 = .ok (.getfield 21, 3) := by decide +kernel
theorem dX1_act_93 : decode cX1_act 93 = .ok (.iload_n 3, 1) := by decide +kernel
theorem dX1_act_94 : decode cX1_act 94 = .ok (.dup2, 1) := by decide +kernel
theorem dX1_act_95 : decode cX1_act 95 = .ok (.iaload, 1) := by decide +kernel
theorem dX1_act_96 : decode cX1_act 96 = .ok (.iconst 1, 1) := by decide +kernel
theorem dX1_act_97 : decode cX1_act 97 = .ok (.iadd, 1) := by decide +kernel
theorem dX1_act_98 : decode cX1_act 98 = .ok (.iastore, 1) := by decide +kernel
theorem dX1_act_99 : decode cX1_act 99 = .ok (.goto 37, 3) := by decide +kernel
theorem dX1_act_102 : decode cX1_act 102 = .ok (.aload_n 0, 1) := by decide +kernel
theorem dX1_act_103 : decode cX1_act 103 = .ok (.iload_n 2, 1) := by decide +kernel
theorem dX1_act_104 : decode cX1_act 104 = .ok (.invokevirtual 40, 3) := by decide +kernel
theorem dX1_act_107 : decode cX1_act 107 = .ok (.ifCond .eq 29, 3) := by decide +kernel
theorem dX1_act_110 : decode cX1_act 110 = .ok (.aload_n 0, 1) := by decide +kernel
theorem dX1_act_111 : decode cX1_act 111 = .ok (.getfield 21, 3) := by decide +kernel
theorem dX1_act_114 : decode cX1_act 114 = .ok (.iload_n 2, 1) := by decide +kernel
theorem dX1_act_115 : decode cX1_act 115 = .ok (.dup2, 1) := by decide +kernel
theorem dX1_act_116 : decode cX1_act 116 = .ok (.iaload, 1) := by decide +kernel
theorem dX1_act_117 : decode cX1_act 117 = .ok (.iload_n 1, 1) := by decide +kernel
theorem dX1_act_118 : decode cX1_act 118 = .ok (.invokestatic 57, 3) := by decide +kernel
theorem dX1_act_121 : decode cX1_act 121 = .ok (.iadd, 1) := by decide +kernel
theorem dX1_act_122 : decode cX1_act 122 = .ok (.iastore, 1) := by decide +kernel
theorem dX1_act_123 : decode cX1_act 123 = .ok (.aload_n 0, 1) := by decide +kernel
theorem dX1_act_124 : decode cX1_act 124 = .ok (.dup, 1) := by decide +kernel
theorem dX1_act_125 : decode cX1_act 125 = .ok (.getfield 50, 3) := by decide +kernel
theorem dX1_act_128 : decode cX1_act 128 = .ok (.iload_n 1, 1) := by decide +kernel
theorem dX1_act_129 : decode cX1_act 129 = .ok (.invokestatic 57, 3) := by decide +kernel
theorem dX1_act_132 : decode cX1_act 132 = .ok (.isub, 1) := by decide +kernel
theorem dX1_act_133 : decode cX1_act 133 = .ok (.putfield 50, 3) := by decide +kernel
theorem dX1_act_136 : decode cX1_act 136 = .ok (.return_, 1) := by decide +kernel
theorem dX1_wake_0 : decode cX1_wake 0 = .ok (.iconst 0, 1) := by decide +kernel
theorem dX1_wake_1 : decode cX1_wake 1 = .ok (.istore_n 1, 1) := by decide +kernel
theorem dX1_wake_2 : decode cX1_wake 2 = .ok (.iload_n 1, 1) := by decide +kernel
theorem dX1_wake_3 : decode cX1_wake 3 = .ok (.bipush 6, 2) := by decide +kernel
theorem dX1_wake_5 : decode cX1_wake 5 = .ok (.if_icmp .ge 47, 3) := by decide +kernel
theorem dX1_wake_8 : decode cX1_wake 8 = .ok (.aload_n 0, 1) := by decide +kernel
theorem dX1_wake_9 : decode cX1_wake 9 = .ok (.iload_n 1, 1) := by decide +kernel
theorem dX1_wake_10 : decode cX1_wake 10 = .ok (.invokevirtual 40, 3) := by decide +kernel
theorem dX1_wake_13 : decode cX1_wake 13 = .ok (.ifCond .eq 33, 3) := by decide +kernel
theorem dX1_wake_16 : decode cX1_wake 16 = .ok (.aload_n 0, 1) := by decide +kernel
theorem dX1_wake_17 : decode cX1_wake 17 = .ok (.getfield 9, 3) := by decide +kernel
theorem dX1_wake_20 : decode cX1_wake 20 = .ok (.iload_n 1, 1) := by decide +kernel
theorem dX1_wake_21 : decode cX1_wake 21 = .ok (.aload_n 0, 1) := by decide +kernel
theorem dX1_wake_22 : decode cX1_wake 22 = .ok (.iload_n 1, 1) := by decide +kernel
theorem dX1_wake_23 : decode cX1_wake 23 = .ok (.aload_n 0, 1) := by decide +kernel
theorem dX1_wake_24 : decode cX1_wake 24 = .ok (.getfield 9, 3) := by decide +kernel
theorem dX1_wake_27 : decode cX1_wake 27 = .ok (.iload_n 1, 1) := by decide +kernel
theorem dX1_wake_28 : decode cX1_wake 28 = .ok (.iaload, 1) := by decide +kernel
theorem dX1_wake_29 : decode cX1_wake 29 = .ok (.aload_n 0, 1) := by decide +kernel
theorem dX1_wake_30 : decode cX1_wake 30 = .ok (.getfield 21, 3) := by decide +kernel
theorem dX1_wake_33 : decode cX1_wake 33 = .ok (.iload_n 1, 1) := by decide +kernel
theorem dX1_wake_34 : decode cX1_wake 34 = .ok (.iaload, 1) := by decide +kernel
theorem dX1_wake_35 : decode cX1_wake 35 = .ok (.invokevirtual 71, 3) := by decide +kernel
theorem dX1_wake_38 : decode cX1_wake 38 = .ok (.iastore, 1) := by decide +kernel
theorem dX1_wake_39 : decode cX1_wake 39 = .ok (.aload_n 0, 1) := by decide +kernel
theorem dX1_wake_40 : decode cX1_wake 40 = .ok (.getfield 21, 3) := by decide +kernel
theorem dX1_wake_43 : decode cX1_wake 43 = .ok (.iload_n 1, 1) := by decide +kernel
theorem dX1_wake_44 : decode cX1_wake 44 = .ok (.iconst 0, 1) := by decide +kernel
theorem dX1_wake_45 : decode cX1_wake 45 = .ok (.iastore, 1) := by decide +kernel
theorem dX1_wake_46 : decode cX1_wake 46 = .ok (.iinc 1 1, 3) := by decide +kernel
theorem dX1_wake_49 : decode cX1_wake 49 = .ok (.goto (-47), 3) := by decide +kernel
theorem dX1_wake_52 : decode cX1_wake 52 = .ok (.aload_n 0, 1) := by decide +kernel
theorem dX1_wake_53 : decode cX1_wake 53 = .ok (.aload_n 0, 1) := by decide +kernel
theorem dX1_wake_54 : decode cX1_wake 54 = .ok (.getfield 28, 3) := by decide +kernel
theorem dX1_wake_57 : decode cX1_wake 57 = .ok (.iconst 1, 1) := by decide +kernel
theorem dX1_wake_58 : decode cX1_wake 58 = .ok (.if_icmp .ne 10, 3) := by decide +kernel
theorem dX1_wake_61 : decode cX1_wake 61 = .ok (.aload_n 0, 1) := by decide +kernel
theorem dX1_wake_62 : decode cX1_wake 62 = .ok (.getfield 24, 3) := by decide +kernel
theorem dX1_wake_65 : decode cX1_wake 65 = .ok (.goto 4, 3) := by decide +kernel
theorem dX1_wake_68 : decode cX1_wake 68 = .ok (.iconst 0, 1) := by decide +kernel
theorem dX1_wake_69 : decode cX1_wake 69 = .ok (.putfield 50, 3) := by decide +kernel
theorem dX1_wake_72 : decode cX1_wake 72 = .ok (.return_, 1) := by decide +kernel
theorem dX1_aged_0 : decode cX1_aged 0 = .ok (.aload_n 0, 1) := by decide +kernel
theorem dX1_aged_1 : decode cX1_aged 1 = .ok (.iload_n 1, 1) := by decide +kernel
theorem dX1_aged_2 : decode cX1_aged 2 = .ok (.invokevirtual 40, 3) := by decide +kernel
theorem dX1_aged_5 : decode cX1_aged 5 = .ok (.ifCond .eq 8, 3) := by decide +kernel
theorem dX1_aged_8 : decode cX1_aged 8 = .ok (.iload_n 3, 1) := by decide +kernel
theorem dX1_aged_9 : decode cX1_aged 9 = .ok (.iconst 1, 1) := by decide +kernel
theorem dX1_aged_10 : decode cX1_aged 10 = .ok (.if_icmp .ne 5, 3) := by decide +kernel
theorem dX1_aged_13 : decode cX1_aged 13 = .ok (.iload_n 2, 1) := by decide +kernel
theorem dX1_aged_14 : decode cX1_aged 14 = .ok (.ireturn, 1) := by decide +kernel
theorem dX1_aged_15 : decode cX1_aged 15 = .ok (.iload_n 3, 1) := by decide +kernel
theorem dX1_aged_16 : decode cX1_aged 16 = .ok (.ifCond .ne 19, 3) := by decide +kernel
theorem dX1_aged_19 : decode cX1_aged 19 = .ok (.bipush 99, 2) := by decide +kernel
theorem dX1_aged_21 : decode cX1_aged 21 = .ok (.iload_n 2, 1) := by decide +kernel
theorem dX1_aged_22 : decode cX1_aged 22 = .ok (.aload_n 0, 1) := by decide +kernel
theorem dX1_aged_23 : decode cX1_aged 23 = .ok (.getfield 15, 3) := by decide +kernel
theorem dX1_aged_26 : decode cX1_aged 26 = .ok (.iload_n 1, 1) := by decide +kernel
theorem dX1_aged_27 : decode cX1_aged 27 = .ok (.iaload, 1) := by decide +kernel
theorem dX1_aged_28 : decode cX1_aged 28 = .ok (.iadd, 1) := by decide +kernel
theorem dX1_aged_29 : decode cX1_aged 29 = .ok (.invokestatic 74, 3) := by decide +kernel
theorem dX1_aged_32 : decode cX1_aged 32 = .ok (.goto 20, 3) := by decide +kernel
theorem dX1_aged_35 : decode cX1_aged 35 = .ok (.aload_n 0, 1) := by decide +kernel
theorem dX1_aged_36 : decode cX1_aged 36 = .ok (.getfield 18, 3) := by decide +kernel
theorem dX1_aged_39 : decode cX1_aged 39 = .ok (.iload_n 1, 1) := by decide +kernel
theorem dX1_aged_40 : decode cX1_aged 40 = .ok (.iaload, 1) := by decide +kernel
theorem dX1_aged_41 : decode cX1_aged 41 = .ok (.iload_n 2, 1) := by decide +kernel
theorem dX1_aged_42 : decode cX1_aged 42 = .ok (.aload_n 0, 1) := by decide +kernel
theorem dX1_aged_43 : decode cX1_aged 43 = .ok (.getfield 15, 3) := by decide +kernel
theorem dX1_aged_46 : decode cX1_aged 46 = .ok (.iload_n 1, 1) := by decide +kernel
theorem dX1_aged_47 : decode cX1_aged 47 = .ok (.iaload, 1) := by decide +kernel
theorem dX1_aged_48 : decode cX1_aged 48 = .ok (.isub, 1) := by decide +kernel
theorem dX1_aged_49 : decode cX1_aged 49 = .ok (.invokestatic 79, 3) := by decide +kernel
theorem dX1_aged_52 : decode cX1_aged 52 = .ok (.ireturn, 1) := by decide +kernel
theorem dX1_oldestOne_0 : decode cX1_oldestOne 0 = .ok (.bipush (-6), 2) := by decide +kernel
theorem dX1_oldestOne_2 : decode cX1_oldestOne 2 = .ok (.istore_n 1, 1) := by decide +kernel
theorem dX1_oldestOne_3 : decode cX1_oldestOne 3 = .ok (.iconst (-1), 1) := by decide +kernel
theorem dX1_oldestOne_4 : decode cX1_oldestOne 4 = .ok (.istore_n 2, 1) := by decide +kernel
theorem dX1_oldestOne_5 : decode cX1_oldestOne 5 = .ok (.iconst 0, 1) := by decide +kernel
theorem dX1_oldestOne_6 : decode cX1_oldestOne 6 = .ok (.istore_n 3, 1) := by decide +kernel
theorem dX1_oldestOne_7 : decode cX1_oldestOne 7 = .ok (.iload_n 3, 1) := by decide +kernel
theorem dX1_oldestOne_8 : decode cX1_oldestOne 8 = .ok (.bipush 6, 2) := by decide +kernel
theorem dX1_oldestOne_10 : decode cX1_oldestOne 10 = .ok (.if_icmp .ge 36, 3) := by decide +kernel
theorem dX1_oldestOne_13 : decode cX1_oldestOne 13 = .ok (.aload_n 0, 1) := by decide +kernel
theorem dX1_oldestOne_14 : decode cX1_oldestOne 14 = .ok (.iload_n 3, 1) := by decide +kernel
theorem dX1_oldestOne_15 : decode cX1_oldestOne 15 = .ok (.invokevirtual 40, 3) := by decide +kernel
theorem dX1_oldestOne_18 : decode cX1_oldestOne 18 = .ok (.ifCond .eq 22, 3) := by decide +kernel
theorem dX1_oldestOne_21 : decode cX1_oldestOne 21 = .ok (.aload_n 0, 1) := by decide +kernel
theorem dX1_oldestOne_22 : decode cX1_oldestOne 22 = .ok (.getfield 9, 3) := by decide +kernel
theorem dX1_oldestOne_25 : decode cX1_oldestOne 25 = .ok (.iload_n 3, 1) := by decide +kernel
theorem dX1_oldestOne_26 : decode cX1_oldestOne 26 = .ok (.iaload, 1) := by decide +kernel
theorem dX1_oldestOne_27 : decode cX1_oldestOne 27 = .ok (.iload_n 2, 1) := by decide +kernel
theorem dX1_oldestOne_28 : decode cX1_oldestOne 28 = .ok (.if_icmp .le 12, 3) := by decide +kernel
theorem dX1_oldestOne_31 : decode cX1_oldestOne 31 = .ok (.iload_n 3, 1) := by decide +kernel
theorem dX1_oldestOne_32 : decode cX1_oldestOne 32 = .ok (.istore_n 1, 1) := by decide +kernel
theorem dX1_oldestOne_33 : decode cX1_oldestOne 33 = .ok (.aload_n 0, 1) := by decide +kernel
theorem dX1_oldestOne_34 : decode cX1_oldestOne 34 = .ok (.getfield 9, 3) := by decide +kernel
theorem dX1_oldestOne_37 : decode cX1_oldestOne 37 = .ok (.iload_n 3, 1) := by decide +kernel
theorem dX1_oldestOne_38 : decode cX1_oldestOne 38 = .ok (.iaload, 1) := by decide +kernel
theorem dX1_oldestOne_39 : decode cX1_oldestOne 39 = .ok (.istore_n 2, 1) := by decide +kernel
theorem dX1_oldestOne_40 : decode cX1_oldestOne 40 = .ok (.iinc 3 1, 3) := by decide +kernel
theorem dX1_oldestOne_43 : decode cX1_oldestOne 43 = .ok (.goto (-36), 3) := by decide +kernel
theorem dX1_oldestOne_46 : decode cX1_oldestOne 46 = .ok (.iload_n 1, 1) := by decide +kernel
theorem dX1_oldestOne_47 : decode cX1_oldestOne 47 = .ok (.ireturn, 1) := by decide +kernel
theorem dX1_looksTogether_0 : decode cX1_looksTogether 0 = .ok (.iconst 0, 1) := by decide +kernel
theorem dX1_looksTogether_1 : decode cX1_looksTogether 1 = .ok (.istore_n 1, 1) := by decide +kernel
theorem dX1_looksTogether_2 : decode cX1_looksTogether 2 = .ok (.iconst 0, 1) := by decide +kernel
theorem dX1_looksTogether_3 : decode cX1_looksTogether 3 = .ok (.istore_n 2, 1) := by decide +kernel
theorem dX1_looksTogether_4 : decode cX1_looksTogether 4 = .ok (.iload_n 2, 1) := by decide +kernel
theorem dX1_looksTogether_5 : decode cX1_looksTogether 5 = .ok (.bipush 6, 2) := by decide +kernel
theorem dX1_looksTogether_7 : decode cX1_looksTogether 7 = .ok (.if_icmp .ge 30, 3) := by decide +kernel
theorem dX1_looksTogether_10 : decode cX1_looksTogether 10 = .ok (.iload_n 1, 1) := by decide +kernel
theorem dX1_looksTogether_11 : decode cX1_looksTogether 11 = .ok (.aload_n 0, 1) := by decide +kernel
theorem dX1_looksTogether_12 : decode cX1_looksTogether 12 = .ok (.iload_n 2, 1) := by decide +kernel
theorem dX1_looksTogether_13 : decode cX1_looksTogether 13 = .ok (.invokevirtual 40, 3) := by decide +kernel
theorem dX1_looksTogether_16 : decode cX1_looksTogether 16 = .ok (.ifCond .eq 12, 3) := by decide +kernel
theorem dX1_looksTogether_19 : decode cX1_looksTogether 19 = .ok (.aload_n 0, 1) := by decide +kernel
theorem dX1_looksTogether_20 : decode cX1_looksTogether 20 = .ok (.getfield 9, 3) := by decide +kernel
theorem dX1_looksTogether_23 : decode cX1_looksTogether 23 = .ok (.iload_n 2, 1) := by decide +kernel
theorem dX1_looksTogether_24 : decode cX1_looksTogether 24 = .ok (.iaload, 1) := by decide +kernel
theorem dX1_looksTogether_25 : decode cX1_looksTogether 25 = .ok (.goto 4, 3) := by decide +kernel
theorem dX1_looksTogether_28 : decode cX1_looksTogether 28 = .ok (.iconst 0, 1) := by decide +kernel
theorem dX1_looksTogether_29 : decode cX1_looksTogether 29 = .ok (.iadd, 1) := by decide +kernel
theorem dX1_looksTogether_30 : decode cX1_looksTogether 30 = .ok (.istore_n 1, 1) := by decide +kernel
theorem dX1_looksTogether_31 : decode cX1_looksTogether 31 = .ok (.iinc 2 1, 3) := by decide +kernel
theorem dX1_looksTogether_34 : decode cX1_looksTogether 34 = .ok (.goto (-30), 3) := by decide +kernel
theorem dX1_looksTogether_37 : decode cX1_looksTogether 37 = .ok (.iload_n 1, 1) := by decide +kernel
theorem dX1_looksTogether_38 : decode cX1_looksTogether 38 = .ok (.ireturn, 1) := by decide +kernel
theorem dJ6_compare_7cf53_0 : decode cJ6_compare_7cf53 0 = .ok (.iload_n 0, 1) := by decide +kernel
theorem dJ6_compare_7cf53_1 : decode cJ6_compare_7cf53 1 = .ok (.iload_n 1, 1) := by decide +kernel
theorem dJ6_compare_7cf53_2 : decode cJ6_compare_7cf53 2 = .ok (.if_icmp .ge 7, 3) := by decide +kernel
theorem dJ6_compare_7cf53_5 : decode cJ6_compare_7cf53 5 = .ok (.iconst (-1), 1) := by decide +kernel
theorem dJ6_compare_7cf53_6 : decode cJ6_compare_7cf53 6 = .ok (.goto 13, 3) := by decide +kernel
theorem dJ6_compare_7cf53_9 : decode cJ6_compare_7cf53 9 = .ok (.iload_n 0, 1) := by decide +kernel
theorem dJ6_compare_7cf53_10 : decode cJ6_compare_7cf53 10 = .ok (.iload_n 1, 1) := by decide +kernel
theorem dJ6_compare_7cf53_11 : decode cJ6_compare_7cf53 11 = .ok (.if_icmp .ne 7, 3) := by decide +kernel
theorem dJ6_compare_7cf53_14 : decode cJ6_compare_7cf53 14 = .ok (.iconst 0, 1) := by decide +kernel
theorem dJ6_compare_7cf53_15 : decode cJ6_compare_7cf53 15 = .ok (.goto 4, 3) := by decide +kernel
theorem dJ6_compare_7cf53_18 : decode cJ6_compare_7cf53 18 = .ok (.iconst 1, 1) := by decide +kernel
theorem dJ6_compare_7cf53_19 : decode cJ6_compare_7cf53 19 = .ok (.ireturn, 1) := by decide +kernel
theorem dJ6_bitCount_0f7a4_0 : decode cJ6_bitCount_0f7a4 0 = .ok (.iload_n 0, 1) := by decide +kernel
theorem dJ6_bitCount_0f7a4_1 : decode cJ6_bitCount_0f7a4 1 = .ok (.iload_n 0, 1) := by decide +kernel
theorem dJ6_bitCount_0f7a4_2 : decode cJ6_bitCount_0f7a4 2 = .ok (.iconst 1, 1) := by decide +kernel
theorem dJ6_bitCount_0f7a4_3 : decode cJ6_bitCount_0f7a4 3 = .ok (.iushr, 1) := by decide +kernel
theorem dJ6_bitCount_0f7a4_4 : decode cJ6_bitCount_0f7a4 4 = .ok (.ldc_w 265, 3) := by decide +kernel
theorem dJ6_bitCount_0f7a4_7 : decode cJ6_bitCount_0f7a4 7 = .ok (.iand, 1) := by decide +kernel
theorem dJ6_bitCount_0f7a4_8 : decode cJ6_bitCount_0f7a4 8 = .ok (.isub, 1) := by decide +kernel
theorem dJ6_bitCount_0f7a4_9 : decode cJ6_bitCount_0f7a4 9 = .ok (.istore_n 0, 1) := by decide +kernel
theorem dJ6_bitCount_0f7a4_10 : decode cJ6_bitCount_0f7a4 10 = .ok (.iload_n 0, 1) := by decide +kernel
theorem dJ6_bitCount_0f7a4_11 : decode cJ6_bitCount_0f7a4 11 = .ok (.ldc_w 266, 3) := by decide +kernel
theorem dJ6_bitCount_0f7a4_14 : decode cJ6_bitCount_0f7a4 14 = .ok (.iand, 1) := by decide +kernel
theorem dJ6_bitCount_0f7a4_15 : decode cJ6_bitCount_0f7a4 15 = .ok (.iload_n 0, 1) := by decide +kernel
theorem dJ6_bitCount_0f7a4_16 : decode cJ6_bitCount_0f7a4 16 = .ok (.iconst 2, 1) := by decide +kernel
theorem dJ6_bitCount_0f7a4_17 : decode cJ6_bitCount_0f7a4 17 = .ok (.iushr, 1) := by decide +kernel
theorem dJ6_bitCount_0f7a4_18 : decode cJ6_bitCount_0f7a4 18 = .ok (.ldc_w 266, 3) := by decide +kernel
theorem dJ6_bitCount_0f7a4_21 : decode cJ6_bitCount_0f7a4 21 = .ok (.iand, 1) := by decide +kernel
theorem dJ6_bitCount_0f7a4_22 : decode cJ6_bitCount_0f7a4 22 = .ok (.iadd, 1) := by decide +kernel
theorem dJ6_bitCount_0f7a4_23 : decode cJ6_bitCount_0f7a4 23 = .ok (.istore_n 0, 1) := by decide +kernel
theorem dJ6_bitCount_0f7a4_24 : decode cJ6_bitCount_0f7a4 24 = .ok (.iload_n 0, 1) := by decide +kernel
theorem dJ6_bitCount_0f7a4_25 : decode cJ6_bitCount_0f7a4 25 = .ok (.iload_n 0, 1) := by decide +kernel
theorem dJ6_bitCount_0f7a4_26 : decode cJ6_bitCount_0f7a4 26 = .ok (.iconst 4, 1) := by decide +kernel
theorem dJ6_bitCount_0f7a4_27 : decode cJ6_bitCount_0f7a4 27 = .ok (.iushr, 1) := by decide +kernel
theorem dJ6_bitCount_0f7a4_28 : decode cJ6_bitCount_0f7a4 28 = .ok (.iadd, 1) := by decide +kernel
theorem dJ6_bitCount_0f7a4_29 : decode cJ6_bitCount_0f7a4 29 = .ok (.ldc_w 267, 3) := by decide +kernel
theorem dJ6_bitCount_0f7a4_32 : decode cJ6_bitCount_0f7a4 32 = .ok (.iand, 1) := by decide +kernel
theorem dJ6_bitCount_0f7a4_33 : decode cJ6_bitCount_0f7a4 33 = .ok (.istore_n 0, 1) := by decide +kernel
theorem dJ6_bitCount_0f7a4_34 : decode cJ6_bitCount_0f7a4 34 = .ok (.iload_n 0, 1) := by decide +kernel
theorem dJ6_bitCount_0f7a4_35 : decode cJ6_bitCount_0f7a4 35 = .ok (.iload_n 0, 1) := by decide +kernel
theorem dJ6_bitCount_0f7a4_36 : decode cJ6_bitCount_0f7a4 36 = .ok (.bipush 8, 2) := by decide +kernel
theorem dJ6_bitCount_0f7a4_38 : decode cJ6_bitCount_0f7a4 38 = .ok (.iushr, 1) := by decide +kernel
theorem dJ6_bitCount_0f7a4_39 : decode cJ6_bitCount_0f7a4 39 = .ok (.iadd, 1) := by decide +kernel
theorem dJ6_bitCount_0f7a4_40 : decode cJ6_bitCount_0f7a4 40 = .ok (.istore_n 0, 1) := by decide +kernel
theorem dJ6_bitCount_0f7a4_41 : decode cJ6_bitCount_0f7a4 41 = .ok (.iload_n 0, 1) := by decide +kernel
theorem dJ6_bitCount_0f7a4_42 : decode cJ6_bitCount_0f7a4 42 = .ok (.iload_n 0, 1) := by decide +kernel
theorem dJ6_bitCount_0f7a4_43 : decode cJ6_bitCount_0f7a4 43 = .ok (.bipush 16, 2) := by decide +kernel
theorem dJ6_bitCount_0f7a4_45 : decode cJ6_bitCount_0f7a4 45 = .ok (.iushr, 1) := by decide +kernel
theorem dJ6_bitCount_0f7a4_46 : decode cJ6_bitCount_0f7a4 46 = .ok (.iadd, 1) := by decide +kernel
theorem dJ6_bitCount_0f7a4_47 : decode cJ6_bitCount_0f7a4 47 = .ok (.istore_n 0, 1) := by decide +kernel
theorem dJ6_bitCount_0f7a4_48 : decode cJ6_bitCount_0f7a4 48 = .ok (.iload_n 0, 1) := by decide +kernel
theorem dJ6_bitCount_0f7a4_49 : decode cJ6_bitCount_0f7a4 49 = .ok (.bipush 63, 2) := by decide +kernel
theorem dJ6_bitCount_0f7a4_51 : decode cJ6_bitCount_0f7a4 51 = .ok (.iand, 1) := by decide +kernel
theorem dJ6_bitCount_0f7a4_52 : decode cJ6_bitCount_0f7a4 52 = .ok (.ireturn, 1) := by decide +kernel
theorem dJ9_max_7cf53_0 : decode cJ9_max_7cf53 0 = .ok (.iload_n 0, 1) := by decide +kernel
theorem dJ9_max_7cf53_1 : decode cJ9_max_7cf53 1 = .ok (.iload_n 1, 1) := by decide +kernel
theorem dJ9_max_7cf53_2 : decode cJ9_max_7cf53 2 = .ok (.if_icmp .lt 7, 3) := by decide +kernel
theorem dJ9_max_7cf53_5 : decode cJ9_max_7cf53 5 = .ok (.iload_n 0, 1) := by decide +kernel
theorem dJ9_max_7cf53_6 : decode cJ9_max_7cf53 6 = .ok (.goto 4, 3) := by decide +kernel
theorem dJ9_max_7cf53_9 : decode cJ9_max_7cf53 9 = .ok (.iload_n 1, 1) := by decide +kernel
theorem dJ9_max_7cf53_10 : decode cJ9_max_7cf53 10 = .ok (.ireturn, 1) := by decide +kernel
theorem dJ9_max_f86c9_0 : decode cJ9_max_f86c9 0 = .ok (.lload_n 0, 1) := by decide +kernel
theorem dJ9_max_f86c9_1 : decode cJ9_max_f86c9 1 = .ok (.lload_n 2, 1) := by decide +kernel
theorem dJ9_max_f86c9_2 : decode cJ9_max_f86c9 2 = .ok (.lcmp, 1) := by decide +kernel
theorem dJ9_max_f86c9_3 : decode cJ9_max_f86c9 3 = .ok (.ifCond .lt 7, 3) := by decide +kernel
theorem dJ9_max_f86c9_6 : decode cJ9_max_f86c9 6 = .ok (.lload_n 0, 1) := by decide +kernel
theorem dJ9_max_f86c9_7 : decode cJ9_max_f86c9 7 = .ok (.goto 4, 3) := by decide +kernel
theorem dJ9_max_f86c9_10 : decode cJ9_max_f86c9 10 = .ok (.lload_n 2, 1) := by decide +kernel
theorem dJ9_max_f86c9_11 : decode cJ9_max_f86c9 11 = .ok (.lreturn, 1) := by decide +kernel
theorem dJ9_min_7cf53_0 : decode cJ9_min_7cf53 0 = .ok (.iload_n 0, 1) := by decide +kernel
theorem dJ9_min_7cf53_1 : decode cJ9_min_7cf53 1 = .ok (.iload_n 1, 1) := by decide +kernel
theorem dJ9_min_7cf53_2 : decode cJ9_min_7cf53 2 = .ok (.if_icmp .gt 7, 3) := by decide +kernel
theorem dJ9_min_7cf53_5 : decode cJ9_min_7cf53 5 = .ok (.iload_n 0, 1) := by decide +kernel
theorem dJ9_min_7cf53_6 : decode cJ9_min_7cf53 6 = .ok (.goto 4, 3) := by decide +kernel
theorem dJ9_min_7cf53_9 : decode cJ9_min_7cf53 9 = .ok (.iload_n 1, 1) := by decide +kernel
theorem dJ9_min_7cf53_10 : decode cJ9_min_7cf53 10 = .ok (.ireturn, 1) := by decide +kernel
theorem b_X1_has_0 {l : Launch} {z d : Nat} {X : jX} {M : Nat → Int → Int} {Q : Option jV → jM → Prop} {h : Nat} {x1 : Int} (hh : jHi h)  (k1 : x1 < 0 → Q (some (jI 0)) (jG, M)) (k2 : 0 ≤ x1 → 6 ≤ x1 → Q (some (jI 0)) (jG, M)) (k3 : 0 ≤ x1 → x1 < 6 → (jand (jshr (M h 4) x1) 1) ≠ 1 → Q (some (jI 0)) (jG, M)) (k4 : 0 ≤ x1 → x1 < 6 → (jand (jshr (M h 4) x1) 1) = 1 → Q (some (jI 1)) (jG, M)) : J l z X d mX1_has (0, 0) 0 [jR h, jI x1] [] (jG, M) Q :=
  (J_iload_n dX1_has_0 rfl (J_if_lt dX1_has_1 (tgt := 26) (by decide) (fun c1 => (J_iconst dX1_has_26 jc_0 (J_zret dX1_has_27 rfl (Or.inl rfl) (k1 c1)))) (fun c1 => (J_iload_n dX1_has_4 rfl (J_bipush dX1_has_5 jc_6 jb_6 (J_icmp_ge dX1_has_7 (tgt := 26) (by decide) (fun c2 => (J_iconst dX1_has_26 jc_0 (J_zret dX1_has_27 rfl (Or.inl rfl) (k2 c1 c2)))) (fun c2 => (J_aload_n dX1_has_10 rfl (J_getI (k := 4) (kz := 4) jcl_X1 dX1_has_11 wf_X1_31 hh.1 (Nat.le_of_ble_eq_true rfl) rfl rfl (J_iload_n dX1_has_14 rfl (J_ishr dX1_has_15 (J_iconst dX1_has_16 jc_1 (J_iand dX1_has_17 (J_iconst dX1_has_18 jc_1 (J_icmp_ne dX1_has_19 (tgt := 26) (by decide) (fun c3 => (J_iconst dX1_has_26 jc_0 (J_zret dX1_has_27 rfl (Or.inl rfl) (k3 c1 c2 c3)))) (fun c3 => (J_iconst dX1_has_22 jc_1 (J_goto dX1_has_23 (tgt := 27) (by decide) (J_zret dX1_has_27 rfl (Or.inr rfl) (k4 c1 c2 c3))))))))))))))))))))
theorem b_X1_people_0 {l : Launch} {z d : Nat} {X : jX} {M : Nat → Int → Int} {Q : Option jV → jM → Prop} {h : Nat} (hh : jHi h)  (k1 : J l z X d mJ6_bitCount_0f7a4 (0, 0) 0 [jI (M h 4)] [] (jG, M) (fun r μ => J l z X (d + 1) mX1_people (0, 0) 7 [jR h] (r.toList ++ []) μ Q)) : J l z X (d + 1) mX1_people (0, 0) 0 [jR h] [] (jG, M) Q :=
  (J_aload_n dX1_people_0 rfl (J_getI (k := 4) (kz := 4) jcl_X1 dX1_people_1 wf_X1_31 hh.1 (Nat.le_of_ble_eq_true rfl) rfl rfl (J_callS (a1 := (0, 0)) (a2 := (0, 0)) (mm' := mJ6_bitCount_0f7a4) (S := []) [jI (M h 4)] md_J6_bitCount_0f7a4 is_J6_bitCount_0f7a4 dX1_people_4 wm_X1_34 rfl rfl (Nat.le_of_ble_eq_true rfl) (Nat.le_of_ble_eq_true rfl) rfl k1)))
theorem b_X1_people_7 {l : Launch} {z d : Nat} {X : jX} {M : Nat → Int → Int} {Q : Option jV → jM → Prop} {h : Nat} {t0 : Int} (hh : jHi h)  (k1 : Q (some (jI t0)) (jG, M)) : J l z X d mX1_people (0, 0) 7 [jR h] [jI t0] (jG, M) Q :=
  (J_iret dX1_people_7 rfl k1)
theorem b_X1_settle_0 {l : Launch} {z d : Nat} {X : jX} {M : Nat → Int → Int} {Q : Option jV → jM → Prop} {h : Nat} {x1 : Int} {x2 : Int} {x3 : Int} {x4 : Int} (hh : jHi h) (s1 : 0 ≤ x1 → x1 < 6 → 0 ≤ x1) (s2 : 0 ≤ x1 → x1 < 6 → x1 < 6) (k1 : x1 < 0 → Q none (jG, M)) (k2 : 0 ≤ x1 → x1 < 6 → Q none (jG, (jupd (jupd (jupd (jupd (jupd M h 4 (jor (M h 4) (jshl 1 x1))) (h + 1) x1 x2) (h + 2) x1 x3) (h + 3) x1 x4) (h + 4) x1 0))) (k3 : 0 ≤ x1 → 6 ≤ x1 → Q none (jG, M)) : J l z X d mX1_settle (0, 0) 0 [jR h, jI x1, jI x2, jI x3, jI x4] [] (jG, M) Q :=
  (J_iload_n dX1_settle_0 rfl (J_if_lt dX1_settle_1 (tgt := 10) (by decide) (fun c1 => (J_vret dX1_settle_10 rfl (k1 c1))) (fun c1 => (J_iload_n dX1_settle_4 rfl (J_bipush dX1_settle_5 jc_6 jb_6 (J_icmp_lt dX1_settle_7 (tgt := 11) (by decide) (fun c2 => (J_aload_n dX1_settle_11 rfl (J_dupR dX1_settle_12 (J_getI (k := 4) (kz := 4) jcl_X1 dX1_settle_13 wf_X1_31 hh.1 (Nat.le_of_ble_eq_true rfl) rfl rfl (J_iconst dX1_settle_16 jc_1 (J_iload_n dX1_settle_17 rfl (J_ishl dX1_settle_18 (J_ior dX1_settle_19 (J_putI (k := 4) (kz := 4) jcl_X1 dX1_settle_20 wf_X1_31 hh.1 (Nat.le_of_ble_eq_true rfl) rfl rfl rfl (J_aload_n dX1_settle_23 rfl (J_getR (k := 0) jcl_X1 dX1_settle_24 wf_X1_9 hh.1 (Nat.le_of_ble_eq_true rfl) rfl rfl (J_iload_n dX1_settle_27 rfl (J_iload_n dX1_settle_28 rfl (J_iast dX1_settle_29 hh.2.1 (s1 c1 c2) (s2 c1 c2) (J_aload_n dX1_settle_30 rfl (J_getR (k := 1) jcl_X1 dX1_settle_31 wf_X1_15 hh.1 (Nat.le_of_ble_eq_true rfl) rfl rfl (J_iload_n dX1_settle_34 rfl (J_iload_n dX1_settle_35 rfl (J_iast dX1_settle_36 hh.2.2.1 (s1 c1 c2) (s2 c1 c2) (J_aload_n dX1_settle_37 rfl (J_getR (k := 2) jcl_X1 dX1_settle_38 wf_X1_18 hh.1 (Nat.le_of_ble_eq_true rfl) rfl rfl (J_iload_n dX1_settle_41 rfl (J_iload dX1_settle_42 rfl (J_iast dX1_settle_44 hh.2.2.2.1 (s1 c1 c2) (s2 c1 c2) (J_aload_n dX1_settle_45 rfl (J_getR (k := 3) jcl_X1 dX1_settle_46 wf_X1_21 hh.1 (Nat.le_of_ble_eq_true rfl) rfl rfl (J_iload_n dX1_settle_49 rfl (J_iconst dX1_settle_50 jc_0 (J_iast dX1_settle_51 hh.2.2.2.2 (s1 c1 c2) (s2 c1 c2) (J_vret dX1_settle_52 rfl (k2 c1 c2))))))))))))))))))))))))))))))) (fun c2 => (J_vret dX1_settle_10 rfl (k3 c1 c2)))))))))
theorem b_X1_drop_0 {l : Launch} {z d : Nat} {X : jX} {M : Nat → Int → Int} {Q : Option jV → jM → Prop} {h : Nat} {x1 : Int} (hh : jHi h)  (k1 : J l z X d mX1_has (0, 0) 0 [jR h, jI x1] [] (jG, M) (fun r μ => J l z X (d + 1) mX1_drop (0, 0) 5 [jR h, jI x1] (r.toList ++ []) μ Q)) : J l z X (d + 1) mX1_drop (0, 0) 0 [jR h, jI x1] [] (jG, M) Q :=
  (J_aload_n dX1_drop_0 rfl (J_iload_n dX1_drop_1 rfl (J_callV (a1 := (0, 0)) (a2 := (0, 0)) (mm' := mX1_has) (S := []) [jI x1] md_X1_has im_X1_has se_X1_has dX1_drop_2 wm_X1_40 jcl_X1.1 rfl hh.1 rfl rfl (Nat.le_of_ble_eq_true rfl) (Nat.le_of_ble_eq_true rfl) rfl k1)))
theorem b_X1_drop_5 {l : Launch} {z d : Nat} {X : jX} {M : Nat → Int → Int} {Q : Option jV → jM → Prop} {h : Nat} {x1 : Int} {t0 : Int} (hh : jHi h)  (k1 : t0 = 0 → Q none (jG, M)) (k2 : t0 ≠ 0 → Q none (jG, (jupd M h 4 (jand (M h 4) (jxor (jshl 1 x1) (-1)))))) : J l z X d mX1_drop (0, 0) 5 [jR h, jI x1] [jI t0] (jG, M) Q :=
  (J_if_eq dX1_drop_5 (tgt := 22) (by decide) (fun c1 => (J_vret dX1_drop_22 rfl (k1 c1))) (fun c1 => (J_aload_n dX1_drop_8 rfl (J_dupR dX1_drop_9 (J_getI (k := 4) (kz := 4) jcl_X1 dX1_drop_10 wf_X1_31 hh.1 (Nat.le_of_ble_eq_true rfl) rfl rfl (J_iconst dX1_drop_13 jc_1 (J_iload_n dX1_drop_14 rfl (J_ishl dX1_drop_15 (J_iconst dX1_drop_16 jc_m1 (J_ixor dX1_drop_17 (J_iand dX1_drop_18 (J_putI (k := 4) (kz := 4) jcl_X1 dX1_drop_19 wf_X1_31 hh.1 (Nat.le_of_ble_eq_true rfl) rfl rfl rfl (J_vret dX1_drop_22 rfl (k2 c1))))))))))))))
theorem b_X1_takeOver_0 {l : Launch} {z d : Nat} {X : jX} {M : Nat → Int → Int} {Q : Option jV → jM → Prop} {h : Nat} {h2 : Nat} (hh : jHi h) (hh2 : jHi h2)  (k1 : Q none (jG, (jupd (jupd (jupd (jupd (jcpy (jcpy (jcpy (jcpy M (h2 + 1) (h + 1) 6) (h2 + 2) (h + 2) 6) (h2 + 3) (h + 3) 6) (h2 + 4) (h + 4) 6) h 4 ((jcpy (jcpy (jcpy (jcpy M (h2 + 1) (h + 1) 6) (h2 + 2) (h + 2) 6) (h2 + 3) (h + 3) 6) (h2 + 4) (h + 4) 6) h2 4)) h 5 ((jupd (jcpy (jcpy (jcpy (jcpy M (h2 + 1) (h + 1) 6) (h2 + 2) (h + 2) 6) (h2 + 3) (h + 3) 6) (h2 + 4) (h + 4) 6) h 4 ((jcpy (jcpy (jcpy (jcpy M (h2 + 1) (h + 1) 6) (h2 + 2) (h + 2) 6) (h2 + 3) (h + 3) 6) (h2 + 4) (h + 4) 6) h2 4)) h2 5)) h 6 ((jupd (jupd (jcpy (jcpy (jcpy (jcpy M (h2 + 1) (h + 1) 6) (h2 + 2) (h + 2) 6) (h2 + 3) (h + 3) 6) (h2 + 4) (h + 4) 6) h 4 ((jcpy (jcpy (jcpy (jcpy M (h2 + 1) (h + 1) 6) (h2 + 2) (h + 2) 6) (h2 + 3) (h + 3) 6) (h2 + 4) (h + 4) 6) h2 4)) h 5 ((jupd (jcpy (jcpy (jcpy (jcpy M (h2 + 1) (h + 1) 6) (h2 + 2) (h + 2) 6) (h2 + 3) (h + 3) 6) (h2 + 4) (h + 4) 6) h 4 ((jcpy (jcpy (jcpy (jcpy M (h2 + 1) (h + 1) 6) (h2 + 2) (h + 2) 6) (h2 + 3) (h + 3) 6) (h2 + 4) (h + 4) 6) h2 4)) h2 5)) h2 6)) h 7 ((jupd (jupd (jupd (jcpy (jcpy (jcpy (jcpy M (h2 + 1) (h + 1) 6) (h2 + 2) (h + 2) 6) (h2 + 3) (h + 3) 6) (h2 + 4) (h + 4) 6) h 4 ((jcpy (jcpy (jcpy (jcpy M (h2 + 1) (h + 1) 6) (h2 + 2) (h + 2) 6) (h2 + 3) (h + 3) 6) (h2 + 4) (h + 4) 6) h2 4)) h 5 ((jupd (jcpy (jcpy (jcpy (jcpy M (h2 + 1) (h + 1) 6) (h2 + 2) (h + 2) 6) (h2 + 3) (h + 3) 6) (h2 + 4) (h + 4) 6) h 4 ((jcpy (jcpy (jcpy (jcpy M (h2 + 1) (h + 1) 6) (h2 + 2) (h + 2) 6) (h2 + 3) (h + 3) 6) (h2 + 4) (h + 4) 6) h2 4)) h2 5)) h 6 ((jupd (jupd (jcpy (jcpy (jcpy (jcpy M (h2 + 1) (h + 1) 6) (h2 + 2) (h + 2) 6) (h2 + 3) (h + 3) 6) (h2 + 4) (h + 4) 6) h 4 ((jcpy (jcpy (jcpy (jcpy M (h2 + 1) (h + 1) 6) (h2 + 2) (h + 2) 6) (h2 + 3) (h + 3) 6) (h2 + 4) (h + 4) 6) h2 4)) h 5 ((jupd (jcpy (jcpy (jcpy (jcpy M (h2 + 1) (h + 1) 6) (h2 + 2) (h + 2) 6) (h2 + 3) (h + 3) 6) (h2 + 4) (h + 4) 6) h 4 ((jcpy (jcpy (jcpy (jcpy M (h2 + 1) (h + 1) 6) (h2 + 2) (h + 2) 6) (h2 + 3) (h + 3) 6) (h2 + 4) (h + 4) 6) h2 4)) h2 5)) h2 6)) h2 7)))) : J l z X (d + 1) mX1_takeOver (0, 0) 0 [jR h, jR h2] [] (jG, M) Q :=
  (J_aload_n dX1_takeOver_0 rfl (J_getR (k := 0) jcl_X1 dX1_takeOver_1 wf_X1_9 hh2.1 (Nat.le_of_ble_eq_true rfl) rfl rfl (J_iconst dX1_takeOver_4 jc_0 (J_aload_n dX1_takeOver_5 rfl (J_getR (k := 0) jcl_X1 dX1_takeOver_6 wf_X1_9 hh.1 (Nat.le_of_ble_eq_true rfl) rfl rfl (J_iconst dX1_takeOver_9 jc_0 (J_bipush dX1_takeOver_10 jc_6 jb_6 (J_acopy dX1_takeOver_12 wm_X1_44 wac_1 wac_2 wac_3 hh2.2.1 hh.2.1 (by decide) (by decide) (by decide) (by decide) (by omega) (J_aload_n dX1_takeOver_15 rfl (J_getR (k := 1) jcl_X1 dX1_takeOver_16 wf_X1_15 hh2.1 (Nat.le_of_ble_eq_true rfl) rfl rfl (J_iconst dX1_takeOver_19 jc_0 (J_aload_n dX1_takeOver_20 rfl (J_getR (k := 1) jcl_X1 dX1_takeOver_21 wf_X1_15 hh.1 (Nat.le_of_ble_eq_true rfl) rfl rfl (J_iconst dX1_takeOver_24 jc_0 (J_bipush dX1_takeOver_25 jc_6 jb_6 (J_acopy dX1_takeOver_27 wm_X1_44 wac_1 wac_2 wac_3 hh2.2.2.1 hh.2.2.1 (by decide) (by decide) (by decide) (by decide) (by omega) (J_aload_n dX1_takeOver_30 rfl (J_getR (k := 2) jcl_X1 dX1_takeOver_31 wf_X1_18 hh2.1 (Nat.le_of_ble_eq_true rfl) rfl rfl (J_iconst dX1_takeOver_34 jc_0 (J_aload_n dX1_takeOver_35 rfl (J_getR (k := 2) jcl_X1 dX1_takeOver_36 wf_X1_18 hh.1 (Nat.le_of_ble_eq_true rfl) rfl rfl (J_iconst dX1_takeOver_39 jc_0 (J_bipush dX1_takeOver_40 jc_6 jb_6 (J_acopy dX1_takeOver_42 wm_X1_44 wac_1 wac_2 wac_3 hh2.2.2.2.1 hh.2.2.2.1 (by decide) (by decide) (by decide) (by decide) (by omega) (J_aload_n dX1_takeOver_45 rfl (J_getR (k := 3) jcl_X1 dX1_takeOver_46 wf_X1_21 hh2.1 (Nat.le_of_ble_eq_true rfl) rfl rfl (J_iconst dX1_takeOver_49 jc_0 (J_aload_n dX1_takeOver_50 rfl (J_getR (k := 3) jcl_X1 dX1_takeOver_51 wf_X1_21 hh.1 (Nat.le_of_ble_eq_true rfl) rfl rfl (J_iconst dX1_takeOver_54 jc_0 (J_bipush dX1_takeOver_55 jc_6 jb_6 (J_acopy dX1_takeOver_57 wm_X1_44 wac_1 wac_2 wac_3 hh2.2.2.2.2 hh.2.2.2.2 (by decide) (by decide) (by decide) (by decide) (by omega) (J_aload_n dX1_takeOver_60 rfl (J_aload_n dX1_takeOver_61 rfl (J_getI (k := 4) (kz := 4) jcl_X1 dX1_takeOver_62 wf_X1_31 hh2.1 (Nat.le_of_ble_eq_true rfl) rfl rfl (J_putI (k := 4) (kz := 4) jcl_X1 dX1_takeOver_65 wf_X1_31 hh.1 (Nat.le_of_ble_eq_true rfl) rfl rfl rfl (J_aload_n dX1_takeOver_68 rfl (J_aload_n dX1_takeOver_69 rfl (J_getI (k := 5) (kz := 5) jcl_X1 dX1_takeOver_70 wf_X1_50 hh2.1 (Nat.le_of_ble_eq_true rfl) rfl rfl (J_putI (k := 5) (kz := 5) jcl_X1 dX1_takeOver_73 wf_X1_50 hh.1 (Nat.le_of_ble_eq_true rfl) rfl rfl rfl (J_aload_n dX1_takeOver_76 rfl (J_aload_n dX1_takeOver_77 rfl (J_getI (k := 6) (kz := 6) jcl_X1 dX1_takeOver_78 wf_X1_24 hh2.1 (Nat.le_of_ble_eq_true rfl) rfl rfl (J_putI (k := 6) (kz := 6) jcl_X1 dX1_takeOver_81 wf_X1_24 hh.1 (Nat.le_of_ble_eq_true rfl) rfl rfl rfl (J_aload_n dX1_takeOver_84 rfl (J_aload_n dX1_takeOver_85 rfl (J_getI (k := 7) (kz := 7) jcl_X1 dX1_takeOver_86 wf_X1_28 hh2.1 (Nat.le_of_ble_eq_true rfl) rfl rfl (J_putI (k := 7) (kz := 7) jcl_X1 dX1_takeOver_89 wf_X1_28 hh.1 (Nat.le_of_ble_eq_true rfl) rfl rfl rfl (J_vret dX1_takeOver_92 rfl k1)))))))))))))))))))))))))))))))))))))))))))))))))
theorem b_X1_whyNot_0 {l : Launch} {z d : Nat} {X : jX} {M : Nat → Int → Int} {Q : Option jV → jM → Prop} {h : Nat} {x1 : Int} {x2 : Int} {x3 : Int} (hh : jHi h)  (k1 : x1 = 33 → Q (some (jI 0)) (jG, M)) (k2 : x1 ≠ 33 → x1 ≠ 46 → J l z X d mX1_has (0, 0) 0 [jR h, jI x2] [] (jG, M) (fun r μ => J l z X (d + 1) mX1_whyNot (0, 0) 19 [jR h, jI x1, jI x2, jI x3, jN] (r.toList ++ []) μ Q)) (k3 : x1 ≠ 33 → x1 = 46 → Q (some (jI 0)) (jG, M)) : J l z X (d + 1) mX1_whyNot (0, 0) 0 [jR h, jI x1, jI x2, jI x3, jN] [] (jG, M) Q :=
  (J_iload_n dX1_whyNot_0 rfl (J_bipush dX1_whyNot_1 jc_33 jb_33 (J_icmp_eq dX1_whyNot_3 (tgt := 12) (by decide) (fun c1 => (J_iconst dX1_whyNot_12 jc_0 (J_iret dX1_whyNot_13 rfl (k1 c1)))) (fun c1 => (J_iload_n dX1_whyNot_6 rfl (J_bipush dX1_whyNot_7 jc_46 jb_46 (J_icmp_ne dX1_whyNot_9 (tgt := 14) (by decide) (fun c2 => (J_aload_n dX1_whyNot_14 rfl (J_iload_n dX1_whyNot_15 rfl (J_callV (a1 := (0, 0)) (a2 := (0, 0)) (mm' := mX1_has) (S := []) [jI x2] md_X1_has im_X1_has se_X1_has dX1_whyNot_16 wm_X1_40 jcl_X1.1 rfl hh.1 rfl rfl (Nat.le_of_ble_eq_true rfl) (Nat.le_of_ble_eq_true rfl) rfl (k2 c1 c2))))) (fun c2 => (J_iconst dX1_whyNot_12 jc_0 (J_iret dX1_whyNot_13 rfl (k3 c1 c2)))))))))))
theorem b_X1_whyNot_19 {l : Launch} {z d : Nat} {X : jX} {M : Nat → Int → Int} {Q : Option jV → jM → Prop} {h : Nat} {x1 : Int} {x2 : Int} {x3 : Int} {t0 : Int} (hh : jHi h)  (k1 : t0 = 0 → Q (some (jI 1)) (jG, M)) (k2 : t0 ≠ 0 → x1 ≠ 62 → J l z X (d + 1) mX1_whyNot (0, 0) 38 [jR h, jI x1, jI x2, jI x3, jN] [] (jG, M) Q) (k3 : t0 ≠ 0 → x1 = 62 → J l z X d mX1_has (0, 0) 0 [jR h, jI x3] [] (jG, M) (fun r μ => J l z X (d + 1) mX1_whyNot (0, 0) 33 [jR h, jI x1, jI x2, jI x3, jN] (r.toList ++ []) μ Q)) : J l z X (d + 1) mX1_whyNot (0, 0) 19 [jR h, jI x1, jI x2, jI x3, jN] [jI t0] (jG, M) Q :=
  (J_if_eq dX1_whyNot_19 (tgt := 36) (by decide) (fun c1 => (J_iconst dX1_whyNot_36 jc_1 (J_iret dX1_whyNot_37 rfl (k1 c1)))) (fun c1 => (J_iload_n dX1_whyNot_22 rfl (J_bipush dX1_whyNot_23 jc_62 jb_62 (J_icmp_ne dX1_whyNot_25 (tgt := 38) (by decide) (fun c2 => (k2 c1 c2)) (fun c2 => (J_aload_n dX1_whyNot_28 rfl (J_iload_n dX1_whyNot_29 rfl (J_callV (a1 := (0, 0)) (a2 := (0, 0)) (mm' := mX1_has) (S := []) [jI x3] md_X1_has im_X1_has se_X1_has dX1_whyNot_30 wm_X1_40 jcl_X1.1 rfl hh.1 rfl rfl (Nat.le_of_ble_eq_true rfl) (Nat.le_of_ble_eq_true rfl) rfl (k3 c1 c2))))))))))
theorem b_X1_whyNot_33 {l : Launch} {z d : Nat} {X : jX} {M : Nat → Int → Int} {Q : Option jV → jM → Prop} {h : Nat} {x1 : Int} {x2 : Int} {x3 : Int} {t0 : Int} (hh : jHi h)  (k1 : t0 ≠ 0 → J l z X d mX1_whyNot (0, 0) 38 [jR h, jI x1, jI x2, jI x3, jN] [] (jG, M) Q) (k2 : t0 = 0 → Q (some (jI 1)) (jG, M)) : J l z X d mX1_whyNot (0, 0) 33 [jR h, jI x1, jI x2, jI x3, jN] [jI t0] (jG, M) Q :=
  (J_if_ne dX1_whyNot_33 (tgt := 38) (by decide) (fun c1 => (k1 c1)) (fun c1 => (J_iconst dX1_whyNot_36 jc_1 (J_iret dX1_whyNot_37 rfl (k2 c1)))))
theorem b_X1_whyNot_38 {l : Launch} {z d : Nat} {X : jX} {M : Nat → Int → Int} {Q : Option jV → jM → Prop} {h : Nat} {x1 : Int} {x2 : Int} {x3 : Int} (hh : jHi h)  (k1 : x1 ≠ 120 → x1 ≠ 62 → J l z X d mX1_halvesOf (0, 0) 0 [jI x1] [] (jG, M) (fun r μ => J l z X (d + 1) mX1_whyNot (0, 0) 63 [jR h, jI x1, jI x2, jI x3, jN] (r.toList ++ []) μ Q)) (k2 : x1 ≠ 120 → x1 = 62 → J l z X d mX1_whyNotGive (0, 0) 0 [jR h, jI x2, jI x3] [] (jG, M) (fun r μ => J l z X (d + 1) mX1_whyNot (0, 0) 58 [jR h, jI x1, jI x2, jI x3, jN] (r.toList ++ []) μ Q)) (k3 : x1 = 120 → Q (some (jI 0)) (jG, M)) : J l z X (d + 1) mX1_whyNot (0, 0) 38 [jR h, jI x1, jI x2, jI x3, jN] [] (jG, M) Q :=
  (J_iload_n dX1_whyNot_38 rfl (J_bipush dX1_whyNot_39 jc_120 jb_120 (J_icmp_ne dX1_whyNot_41 (tgt := 46) (by decide) (fun c1 => (J_iload_n dX1_whyNot_46 rfl (J_bipush dX1_whyNot_47 jc_62 jb_62 (J_icmp_ne dX1_whyNot_49 (tgt := 59) (by decide) (fun c2 => (J_iload_n dX1_whyNot_59 rfl (J_callS (a1 := (0, 0)) (a2 := (0, 0)) (mm' := mX1_halvesOf) (S := []) [jI x1] md_X1_halvesOf is_X1_halvesOf dX1_whyNot_60 wm_X1_57 rfl rfl (Nat.le_of_ble_eq_true rfl) (Nat.le_of_ble_eq_true rfl) rfl (k1 c1 c2)))) (fun c2 => (J_aload_n dX1_whyNot_52 rfl (J_iload_n dX1_whyNot_53 rfl (J_iload_n dX1_whyNot_54 rfl (J_callV (a1 := (0, 0)) (a2 := (0, 0)) (mm' := mX1_whyNotGive) (S := []) [jI x2, jI x3] md_X1_whyNotGive im_X1_whyNotGive se_X1_whyNotGive dX1_whyNot_55 wm_X1_53 jcl_X1.1 rfl hh.1 rfl rfl (Nat.le_of_ble_eq_true rfl) (Nat.le_of_ble_eq_true rfl) rfl (k2 c1 c2)))))))))) (fun c1 => (J_iconst dX1_whyNot_44 jc_0 (J_iret dX1_whyNot_45 rfl (k3 c1)))))))
theorem b_X1_whyNot_58 {l : Launch} {z d : Nat} {X : jX} {M : Nat → Int → Int} {Q : Option jV → jM → Prop} {h : Nat} {x1 : Int} {x2 : Int} {x3 : Int} {t0 : Int} (hh : jHi h)  (k1 : Q (some (jI t0)) (jG, M)) : J l z X d mX1_whyNot (0, 0) 58 [jR h, jI x1, jI x2, jI x3, jN] [jI t0] (jG, M) Q :=
  (J_iret dX1_whyNot_58 rfl k1)
theorem b_X1_whyNot_63 {l : Launch} {z d : Nat} {X : jX} {M : Nat → Int → Int} {Q : Option jV → jM → Prop} {h : Nat} {x1 : Int} {x2 : Int} {x3 : Int} {t0 : Int} (hh : jHi h) (s1 : 0 ≤ x2) (s2 : x2 < 6) (s3 : jIn ((M (h + 4) x2) + t0)) (k1 : ((M (h + 4) x2) + t0) ≤ 2 → t0 ≤ (M h 5) → Q (some (jI 0)) (jG, M)) (k2 : ((M (h + 4) x2) + t0) ≤ 2 → (M h 5) < t0 → Q (some (jI 4)) (jG, M)) (k3 : 2 < ((M (h + 4) x2) + t0) → Q (some (jI 3)) (jG, M)) : J l z X d mX1_whyNot (0, 0) 63 [jR h, jI x1, jI x2, jI x3, jN] [jI t0] (jG, M) Q :=
  (J_istore dX1_whyNot_63 (Nat.le_of_ble_eq_true rfl) (J_aload_n dX1_whyNot_65 rfl (J_getR (k := 3) jcl_X1 dX1_whyNot_66 wf_X1_21 hh.1 (Nat.le_of_ble_eq_true rfl) rfl rfl (J_iload_n dX1_whyNot_69 rfl (J_iald dX1_whyNot_70 hh.2.2.2.2 s1 s2 (J_iload dX1_whyNot_71 rfl (J_iadd dX1_whyNot_73 s3 (J_iconst dX1_whyNot_74 jc_2 (J_icmp_le dX1_whyNot_75 (tgt := 80) (by decide) (fun c1 => (J_aload_n dX1_whyNot_80 rfl (J_getI (k := 5) (kz := 5) jcl_X1 dX1_whyNot_81 wf_X1_50 hh.1 (Nat.le_of_ble_eq_true rfl) rfl rfl (J_iload dX1_whyNot_84 rfl (J_icmp_ge dX1_whyNot_86 (tgt := 93) (by decide) (fun c2 => (J_iconst dX1_whyNot_93 jc_0 (J_iret dX1_whyNot_94 rfl (k1 c1 c2)))) (fun c2 => (J_iconst dX1_whyNot_89 jc_4 (J_goto dX1_whyNot_90 (tgt := 94) (by decide) (J_iret dX1_whyNot_94 rfl (k2 c1 c2)))))))))) (fun c1 => (J_iconst dX1_whyNot_78 jc_3 (J_iret dX1_whyNot_79 rfl (k3 c1)))))))))))))
theorem b_X1_whyNotGive_0 {l : Launch} {z d : Nat} {X : jX} {M : Nat → Int → Int} {Q : Option jV → jM → Prop} {h : Nat} {x1 : Int} {x2 : Int} (hh : jHi h) (s1 : x1 ≠ x2 → 0 ≤ x2) (s2 : x1 ≠ x2 → x2 < 6) (s3 : x1 ≠ x2 → jIn ((M (h + 4) x2) + 1)) (s4 : x1 ≠ x2 → ((M (h + 4) x2) + 1) ≤ 2 → 0 ≤ x1) (s5 : x1 ≠ x2 → ((M (h + 4) x2) + 1) ≤ 2 → x1 < 6) (k1 : x1 ≠ x2 → ((M (h + 4) x2) + 1) ≤ 2 → (M (h + 4) x1) ≠ 0 → Q (some (jI 0)) (jG, M)) (k2 : x1 ≠ x2 → ((M (h + 4) x2) + 1) ≤ 2 → (M (h + 4) x1) = 0 → Q (some (jI 5)) (jG, M)) (k3 : x1 ≠ x2 → 2 < ((M (h + 4) x2) + 1) → Q (some (jI 3)) (jG, M)) (k4 : x1 = x2 → Q (some (jI 2)) (jG, M)) : J l z X d mX1_whyNotGive (0, 0) 0 [jR h, jI x1, jI x2] [] (jG, M) Q :=
  (J_iload_n dX1_whyNotGive_0 rfl (J_iload_n dX1_whyNotGive_1 rfl (J_icmp_ne dX1_whyNotGive_2 (tgt := 7) (by decide) (fun c1 => (J_aload_n dX1_whyNotGive_7 rfl (J_getR (k := 3) jcl_X1 dX1_whyNotGive_8 wf_X1_21 hh.1 (Nat.le_of_ble_eq_true rfl) rfl rfl (J_iload_n dX1_whyNotGive_11 rfl (J_iald dX1_whyNotGive_12 hh.2.2.2.2 (s1 c1) (s2 c1) (J_iconst dX1_whyNotGive_13 jc_1 (J_iadd dX1_whyNotGive_14 (s3 c1) (J_iconst dX1_whyNotGive_15 jc_2 (J_icmp_le dX1_whyNotGive_16 (tgt := 21) (by decide) (fun c2 => (J_aload_n dX1_whyNotGive_21 rfl (J_getR (k := 3) jcl_X1 dX1_whyNotGive_22 wf_X1_21 hh.1 (Nat.le_of_ble_eq_true rfl) rfl rfl (J_iload_n dX1_whyNotGive_25 rfl (J_iald dX1_whyNotGive_26 hh.2.2.2.2 (s4 c1 c2) (s5 c1 c2) (J_if_ne dX1_whyNotGive_27 (tgt := 34) (by decide) (fun c3 => (J_iconst dX1_whyNotGive_34 jc_0 (J_iret dX1_whyNotGive_35 rfl (k1 c1 c2 c3)))) (fun c3 => (J_iconst dX1_whyNotGive_30 jc_5 (J_goto dX1_whyNotGive_31 (tgt := 35) (by decide) (J_iret dX1_whyNotGive_35 rfl (k2 c1 c2 c3))))))))))) (fun c2 => (J_iconst dX1_whyNotGive_19 jc_3 (J_iret dX1_whyNotGive_20 rfl (k3 c1 c2))))))))))))) (fun c1 => (J_iconst dX1_whyNotGive_5 jc_2 (J_iret dX1_whyNotGive_6 rfl (k4 c1)))))))
theorem b_X1_halvesOf_0 {l : Launch} {z d : Nat} {X : jX} {M : Nat → Int → Int} {Q : Option jV → jM → Prop} {x0 : Int}   (k1 : x0 ≠ 98 → Q (some (jI 1)) (jG, M)) (k2 : x0 = 98 → Q (some (jI 2)) (jG, M)) : J l z X d mX1_halvesOf (0, 0) 0 [jI x0] [] (jG, M) Q :=
  (J_iload_n dX1_halvesOf_0 rfl (J_bipush dX1_halvesOf_1 jc_98 jb_98 (J_icmp_ne dX1_halvesOf_3 (tgt := 10) (by decide) (fun c1 => (J_iconst dX1_halvesOf_10 jc_1 (J_iret dX1_halvesOf_11 rfl (k1 c1)))) (fun c1 => (J_iconst dX1_halvesOf_6 jc_2 (J_goto dX1_halvesOf_7 (tgt := 11) (by decide) (J_iret dX1_halvesOf_11 rfl (k2 c1))))))))
theorem b_X1_act_0 {l : Launch} {z d : Nat} {X : jX} {M : Nat → Int → Int} {Q : Option jV → jM → Prop} {h : Nat} {x1 : Int} {x2 : Int} {x3 : Int} (hh : jHi h)  (k1 : J l z X d mX1_whyNot (0, 0) 0 [jR h, jI x1, jI x2, jI x3, jN] [] (jG, M) (fun r μ => J l z X (d + 1) mX1_act (0, 0) 7 [jR h, jI x1, jI x2, jI x3] (r.toList ++ []) μ Q)) : J l z X (d + 1) mX1_act (0, 0) 0 [jR h, jI x1, jI x2, jI x3] [] (jG, M) Q :=
  (J_aload_n dX1_act_0 rfl (J_iload_n dX1_act_1 rfl (J_iload_n dX1_act_2 rfl (J_iload_n dX1_act_3 rfl (J_callV (a1 := (0, 0)) (a2 := (0, 0)) (mm' := mX1_whyNot) (S := []) [jI x1, jI x2, jI x3] md_X1_whyNot im_X1_whyNot se_X1_whyNot dX1_act_4 wm_X1_60 jcl_X1.1 rfl hh.1 rfl rfl (Nat.le_of_ble_eq_true rfl) (Nat.le_of_ble_eq_true rfl) rfl k1)))))
theorem b_X1_act_7 {l : Launch} {z d : Nat} {X : jX} {M : Nat → Int → Int} {Q : Option jV → jM → Prop} {h : Nat} {x1 : Int} {x2 : Int} {x3 : Int} {t0 : Int} (hh : jHi h) (s1 : t0 = 0 → x1 = 33 → jIn (1 - (M h 7))) (k1 : t0 = 0 → x1 ≠ 33 → x1 ≠ 46 → x1 ≠ 120 → x1 ≠ 62 → J l z X (d + 1) mX1_act (0, 0) 102 [jR h, jI x1, jI x2, jI x3] [] (jG, M) Q) (k2 : t0 = 0 → x1 ≠ 33 → x1 ≠ 46 → x1 ≠ 120 → x1 = 62 → J l z X d mX1_has (0, 0) 0 [jR h, jI x2] [] (jG, M) (fun r μ => J l z X (d + 1) mX1_act (0, 0) 68 [jR h, jI x1, jI x2, jI x3] (r.toList ++ []) μ Q)) (k3 : t0 = 0 → x1 ≠ 33 → x1 ≠ 46 → x1 = 120 → J l z X d mX1_drop (0, 0) 0 [jR h, jI x2] [] (jG, M) (fun r μ => J l z X (d + 1) mX1_act (0, 0) 54 [jR h, jI x1, jI x2, jI x3] (r.toList ++ []) μ Q)) (k4 : t0 = 0 → x1 ≠ 33 → x1 = 46 → J l z X d mX1_wake (0, 0) 0 [jR h, jN] [] (jG, M) (fun r μ => J l z X (d + 1) mX1_act (0, 0) 40 [jR h, jI x1, jI x2, jI x3] (r.toList ++ []) μ Q)) (k5 : t0 = 0 → x1 = 33 → Q none (jG, (jupd M h 7 (1 - (M h 7))))) (k6 : t0 ≠ 0 → Q none (jG, M)) : J l z X (d + 1) mX1_act (0, 0) 7 [jR h, jI x1, jI x2, jI x3] [jI t0] (jG, M) Q :=
  (J_if_eq dX1_act_7 (tgt := 11) (by decide) (fun c1 => (J_iload_n dX1_act_11 rfl (J_bipush dX1_act_12 jc_33 jb_33 (J_icmp_ne dX1_act_14 (tgt := 30) (by decide) (fun c2 => (J_iload_n dX1_act_30 rfl (J_bipush dX1_act_31 jc_46 jb_46 (J_icmp_ne dX1_act_33 (tgt := 43) (by decide) (fun c3 => (J_iload_n dX1_act_43 rfl (J_bipush dX1_act_44 jc_120 jb_120 (J_icmp_ne dX1_act_46 (tgt := 57) (by decide) (fun c4 => (J_iload_n dX1_act_57 rfl (J_bipush dX1_act_58 jc_62 jb_62 (J_icmp_ne dX1_act_60 (tgt := 102) (by decide) (fun c5 => (k1 c1 c2 c3 c4 c5)) (fun c5 => (J_aload_n dX1_act_63 rfl (J_iload_n dX1_act_64 rfl (J_callV (a1 := (0, 0)) (a2 := (0, 0)) (mm' := mX1_has) (S := []) [jI x2] md_X1_has im_X1_has se_X1_has dX1_act_65 wm_X1_40 jcl_X1.1 rfl hh.1 rfl rfl (Nat.le_of_ble_eq_true rfl) (Nat.le_of_ble_eq_true rfl) rfl (k2 c1 c2 c3 c4 c5))))))))) (fun c4 => (J_aload_n dX1_act_49 rfl (J_iload_n dX1_act_50 rfl (J_callV (a1 := (0, 0)) (a2 := (0, 0)) (mm' := mX1_drop) (S := []) [jI x2] md_X1_drop im_X1_drop se_X1_drop dX1_act_51 wm_X1_67 jcl_X1.1 rfl hh.1 rfl rfl (Nat.le_of_ble_eq_true rfl) (Nat.le_of_ble_eq_true rfl) rfl (k3 c1 c2 c3 c4))))))))) (fun c3 => (J_aload_n dX1_act_36 rfl (J_callV (a1 := (0, 0)) (a2 := (0, 0)) (mm' := mX1_wake) (S := []) [] md_X1_wake im_X1_wake se_X1_wake dX1_act_37 wm_X1_64 jcl_X1.1 rfl hh.1 rfl rfl (Nat.le_of_ble_eq_true rfl) (Nat.le_of_ble_eq_true rfl) rfl (k4 c1 c2 c3)))))))) (fun c2 => (J_aload_n dX1_act_17 rfl (J_iconst dX1_act_18 jc_1 (J_aload_n dX1_act_19 rfl (J_getI (k := 7) (kz := 7) jcl_X1 dX1_act_20 wf_X1_28 hh.1 (Nat.le_of_ble_eq_true rfl) rfl rfl (J_isub dX1_act_23 (s1 c1 c2) (J_putI (k := 7) (kz := 7) jcl_X1 dX1_act_24 wf_X1_28 hh.1 (Nat.le_of_ble_eq_true rfl) rfl rfl rfl (J_goto dX1_act_27 (tgt := 136) (by decide) (J_vret dX1_act_136 rfl (k5 c1 c2)))))))))))))) (fun c1 => (J_vret dX1_act_10 rfl (k6 c1))))
theorem b_X1_act_40 {l : Launch} {z d : Nat} {X : jX} {M : Nat → Int → Int} {Q : Option jV → jM → Prop} {h : Nat} {x1 : Int} {x2 : Int} {x3 : Int} (hh : jHi h)  (k1 : Q none (jG, M)) : J l z X d mX1_act (0, 0) 40 [jR h, jI x1, jI x2, jI x3] [] (jG, M) Q :=
  (J_goto dX1_act_40 (tgt := 136) (by decide) (J_vret dX1_act_136 rfl k1))
theorem b_X1_act_54 {l : Launch} {z d : Nat} {X : jX} {M : Nat → Int → Int} {Q : Option jV → jM → Prop} {h : Nat} {x1 : Int} {x2 : Int} {x3 : Int} (hh : jHi h)  (k1 : Q none (jG, M)) : J l z X d mX1_act (0, 0) 54 [jR h, jI x1, jI x2, jI x3] [] (jG, M) Q :=
  (J_goto dX1_act_54 (tgt := 136) (by decide) (J_vret dX1_act_136 rfl k1))
theorem b_X1_act_68 {l : Launch} {z d : Nat} {X : jX} {M : Nat → Int → Int} {Q : Option jV → jM → Prop} {h : Nat} {x1 : Int} {x2 : Int} {x3 : Int} {t0 : Int} (hh : jHi h)  (k1 : t0 = 0 → J l z X (d + 1) mX1_act (0, 0) 102 [jR h, jI x1, jI x2, jI x3] [] (jG, M) Q) (k2 : t0 ≠ 0 → J l z X d mX1_has (0, 0) 0 [jR h, jI x3] [] (jG, M) (fun r μ => J l z X (d + 1) mX1_act (0, 0) 76 [jR h, jI x1, jI x2, jI x3] (r.toList ++ []) μ Q)) : J l z X (d + 1) mX1_act (0, 0) 68 [jR h, jI x1, jI x2, jI x3] [jI t0] (jG, M) Q :=
  (J_if_eq dX1_act_68 (tgt := 102) (by decide) (fun c1 => (k1 c1)) (fun c1 => (J_aload_n dX1_act_71 rfl (J_iload_n dX1_act_72 rfl (J_callV (a1 := (0, 0)) (a2 := (0, 0)) (mm' := mX1_has) (S := []) [jI x3] md_X1_has im_X1_has se_X1_has dX1_act_73 wm_X1_40 jcl_X1.1 rfl hh.1 rfl rfl (Nat.le_of_ble_eq_true rfl) (Nat.le_of_ble_eq_true rfl) rfl (k2 c1))))))
theorem b_X1_act_76 {l : Launch} {z d : Nat} {X : jX} {M : Nat → Int → Int} {Q : Option jV → jM → Prop} {h : Nat} {x1 : Int} {x2 : Int} {x3 : Int} {t0 : Int} (hh : jHi h) (s1 : t0 ≠ 0 → 0 ≤ x2) (s2 : t0 ≠ 0 → x2 < 6) (s3 : t0 ≠ 0 → jIn ((M (h + 4) x2) - 1)) (s4 : t0 ≠ 0 → 0 ≤ x3) (s5 : t0 ≠ 0 → x3 < 6) (s6 : t0 ≠ 0 → jIn (((jupd M (h + 4) x2 ((M (h + 4) x2) - 1)) (h + 4) x3) + 1)) (k1 : t0 = 0 → J l z X d mX1_act (0, 0) 102 [jR h, jI x1, jI x2, jI x3] [] (jG, M) Q) (k2 : t0 ≠ 0 → Q none (jG, (jupd (jupd M (h + 4) x2 ((M (h + 4) x2) - 1)) (h + 4) x3 (((jupd M (h + 4) x2 ((M (h + 4) x2) - 1)) (h + 4) x3) + 1)))) : J l z X d mX1_act (0, 0) 76 [jR h, jI x1, jI x2, jI x3] [jI t0] (jG, M) Q :=
  (J_if_eq dX1_act_76 (tgt := 102) (by decide) (fun c1 => (k1 c1)) (fun c1 => (J_aload_n dX1_act_79 rfl (J_getR (k := 3) jcl_X1 dX1_act_80 wf_X1_21 hh.1 (Nat.le_of_ble_eq_true rfl) rfl rfl (J_iload_n dX1_act_83 rfl (J_dup2_RI dX1_act_84 (J_iald dX1_act_85 hh.2.2.2.2 (s1 c1) (s2 c1) (J_iconst dX1_act_86 jc_1 (J_isub dX1_act_87 (s3 c1) (J_iast dX1_act_88 hh.2.2.2.2 (s1 c1) (s2 c1) (J_aload_n dX1_act_89 rfl (J_getR (k := 3) jcl_X1 dX1_act_90 wf_X1_21 hh.1 (Nat.le_of_ble_eq_true rfl) rfl rfl (J_iload_n dX1_act_93 rfl (J_dup2_RI dX1_act_94 (J_iald dX1_act_95 hh.2.2.2.2 (s4 c1) (s5 c1) (J_iconst dX1_act_96 jc_1 (J_iadd dX1_act_97 (s6 c1) (J_iast dX1_act_98 hh.2.2.2.2 (s4 c1) (s5 c1) (J_goto dX1_act_99 (tgt := 136) (by decide) (J_vret dX1_act_136 rfl (k2 c1)))))))))))))))))))))
theorem b_X1_act_102 {l : Launch} {z d : Nat} {X : jX} {M : Nat → Int → Int} {Q : Option jV → jM → Prop} {h : Nat} {x1 : Int} {x2 : Int} {x3 : Int} (hh : jHi h)  (k1 : J l z X d mX1_has (0, 0) 0 [jR h, jI x2] [] (jG, M) (fun r μ => J l z X (d + 1) mX1_act (0, 0) 107 [jR h, jI x1, jI x2, jI x3] (r.toList ++ []) μ Q)) : J l z X (d + 1) mX1_act (0, 0) 102 [jR h, jI x1, jI x2, jI x3] [] (jG, M) Q :=
  (J_aload_n dX1_act_102 rfl (J_iload_n dX1_act_103 rfl (J_callV (a1 := (0, 0)) (a2 := (0, 0)) (mm' := mX1_has) (S := []) [jI x2] md_X1_has im_X1_has se_X1_has dX1_act_104 wm_X1_40 jcl_X1.1 rfl hh.1 rfl rfl (Nat.le_of_ble_eq_true rfl) (Nat.le_of_ble_eq_true rfl) rfl k1)))
theorem b_X1_act_107 {l : Launch} {z d : Nat} {X : jX} {M : Nat → Int → Int} {Q : Option jV → jM → Prop} {h : Nat} {x1 : Int} {x2 : Int} {x3 : Int} {t0 : Int} (hh : jHi h) (s1 : t0 ≠ 0 → 0 ≤ x2) (s2 : t0 ≠ 0 → x2 < 6) (k1 : t0 = 0 → Q none (jG, M)) (k2 : t0 ≠ 0 → J l z X d mX1_halvesOf (0, 0) 0 [jI x1] [] (jG, M) (fun r μ => J l z X (d + 1) mX1_act (0, 0) 121 [jR h, jI x1, jI x2, jI x3] (r.toList ++ [jI (M (h + 4) x2), jI x2, jR (h + 4)]) μ Q)) : J l z X (d + 1) mX1_act (0, 0) 107 [jR h, jI x1, jI x2, jI x3] [jI t0] (jG, M) Q :=
  (J_if_eq dX1_act_107 (tgt := 136) (by decide) (fun c1 => (J_vret dX1_act_136 rfl (k1 c1))) (fun c1 => (J_aload_n dX1_act_110 rfl (J_getR (k := 3) jcl_X1 dX1_act_111 wf_X1_21 hh.1 (Nat.le_of_ble_eq_true rfl) rfl rfl (J_iload_n dX1_act_114 rfl (J_dup2_RI dX1_act_115 (J_iald dX1_act_116 hh.2.2.2.2 (s1 c1) (s2 c1) (J_iload_n dX1_act_117 rfl (J_callS (a1 := (0, 0)) (a2 := (0, 0)) (mm' := mX1_halvesOf) (S := [jI (M (h + 4) x2), jI x2, jR (h + 4)]) [jI x1] md_X1_halvesOf is_X1_halvesOf dX1_act_118 wm_X1_57 rfl rfl (Nat.le_of_ble_eq_true rfl) (Nat.le_of_ble_eq_true rfl) rfl (k2 c1))))))))))
theorem b_X1_act_121 {l : Launch} {z d : Nat} {X : jX} {M : Nat → Int → Int} {Q : Option jV → jM → Prop} {h : Nat} {x1 : Int} {x2 : Int} {x3 : Int} {t1 : Int} {t2 : Int} {t3 : Int} (hh : jHi h) (s1 : jIn (t2 + t3)) (s2 : 0 ≤ t1) (s3 : t1 < 6) (k1 : J l z X d mX1_halvesOf (0, 0) 0 [jI x1] [] (jG, (jupd M (h + 4) t1 (t2 + t3))) (fun r μ => J l z X (d + 1) mX1_act (0, 0) 132 [jR h, jI x1, jI x2, jI x3] (r.toList ++ [jI ((jupd M (h + 4) t1 (t2 + t3)) h 5), jR h]) μ Q)) : J l z X (d + 1) mX1_act (0, 0) 121 [jR h, jI x1, jI x2, jI x3] [jI t3, jI t2, jI t1, jR (h + 4)] (jG, M) Q :=
  (J_iadd dX1_act_121 s1 (J_iast dX1_act_122 hh.2.2.2.2 s2 s3 (J_aload_n dX1_act_123 rfl (J_dupR dX1_act_124 (J_getI (k := 5) (kz := 5) jcl_X1 dX1_act_125 wf_X1_50 hh.1 (Nat.le_of_ble_eq_true rfl) rfl rfl (J_iload_n dX1_act_128 rfl (J_callS (a1 := (0, 0)) (a2 := (0, 0)) (mm' := mX1_halvesOf) (S := [jI ((jupd M (h + 4) t1 (t2 + t3)) h 5), jR h]) [jI x1] md_X1_halvesOf is_X1_halvesOf dX1_act_129 wm_X1_57 rfl rfl (Nat.le_of_ble_eq_true rfl) (Nat.le_of_ble_eq_true rfl) rfl k1)))))))
theorem b_X1_act_132 {l : Launch} {z d : Nat} {X : jX} {M : Nat → Int → Int} {Q : Option jV → jM → Prop} {h : Nat} {x1 : Int} {x2 : Int} {x3 : Int} {t1 : Int} {t2 : Int} (hh : jHi h) (s1 : jIn (t1 - t2)) (k1 : Q none (jG, (jupd M h 5 (t1 - t2)))) : J l z X d mX1_act (0, 0) 132 [jR h, jI x1, jI x2, jI x3] [jI t2, jI t1, jR h] (jG, M) Q :=
  (J_isub dX1_act_132 s1 (J_putI (k := 5) (kz := 5) jcl_X1 dX1_act_133 wf_X1_50 hh.1 (Nat.le_of_ble_eq_true rfl) rfl rfl rfl (J_vret dX1_act_136 rfl k1)))
theorem b_X1_wake_0 {l : Launch} {z d : Nat} {X : jX} {M : Nat → Int → Int} {Q : Option jV → jM → Prop} {h : Nat} (hh : jHi h)  (k1 : J l z X d mX1_wake (0, 0) 2 [jR h, jI 0] [] (jG, M) Q) : J l z X d mX1_wake (0, 0) 0 [jR h, jN] [] (jG, M) Q :=
  (J_iconst dX1_wake_0 jc_0 (J_istore_n dX1_wake_1 (Nat.le_of_ble_eq_true rfl) k1))
theorem b_X1_wake_2 {l : Launch} {z d : Nat} {X : jX} {M : Nat → Int → Int} {Q : Option jV → jM → Prop} {h : Nat} {x1 : Int} (hh : jHi h)  (k1 : 6 ≤ x1 → (M h 7) ≠ 1 → Q none (jG, (jupd M h 5 0))) (k2 : 6 ≤ x1 → (M h 7) = 1 → Q none (jG, (jupd M h 5 (M h 6)))) (k3 : x1 < 6 → J l z X d mX1_has (0, 0) 0 [jR h, jI x1] [] (jG, M) (fun r μ => J l z X (d + 1) mX1_wake (0, 0) 13 [jR h, jI x1] (r.toList ++ []) μ Q)) : J l z X (d + 1) mX1_wake (0, 0) 2 [jR h, jI x1] [] (jG, M) Q :=
  (J_iload_n dX1_wake_2 rfl (J_bipush dX1_wake_3 jc_6 jb_6 (J_icmp_ge dX1_wake_5 (tgt := 52) (by decide) (fun c1 => (J_aload_n dX1_wake_52 rfl (J_aload_n dX1_wake_53 rfl (J_getI (k := 7) (kz := 7) jcl_X1 dX1_wake_54 wf_X1_28 hh.1 (Nat.le_of_ble_eq_true rfl) rfl rfl (J_iconst dX1_wake_57 jc_1 (J_icmp_ne dX1_wake_58 (tgt := 68) (by decide) (fun c2 => (J_iconst dX1_wake_68 jc_0 (J_putI (k := 5) (kz := 5) jcl_X1 dX1_wake_69 wf_X1_50 hh.1 (Nat.le_of_ble_eq_true rfl) rfl rfl rfl (J_vret dX1_wake_72 rfl (k1 c1 c2))))) (fun c2 => (J_aload_n dX1_wake_61 rfl (J_getI (k := 6) (kz := 6) jcl_X1 dX1_wake_62 wf_X1_24 hh.1 (Nat.le_of_ble_eq_true rfl) rfl rfl (J_goto dX1_wake_65 (tgt := 69) (by decide) (J_putI (k := 5) (kz := 5) jcl_X1 dX1_wake_69 wf_X1_50 hh.1 (Nat.le_of_ble_eq_true rfl) rfl rfl rfl (J_vret dX1_wake_72 rfl (k2 c1 c2))))))))))))) (fun c1 => (J_aload_n dX1_wake_8 rfl (J_iload_n dX1_wake_9 rfl (J_callV (a1 := (0, 0)) (a2 := (0, 0)) (mm' := mX1_has) (S := []) [jI x1] md_X1_has im_X1_has se_X1_has dX1_wake_10 wm_X1_40 jcl_X1.1 rfl hh.1 rfl rfl (Nat.le_of_ble_eq_true rfl) (Nat.le_of_ble_eq_true rfl) rfl (k3 c1))))))))
theorem b_X1_wake_13 {l : Launch} {z d : Nat} {X : jX} {M : Nat → Int → Int} {Q : Option jV → jM → Prop} {h : Nat} {x1 : Int} {t0 : Int} (hh : jHi h) (s1 : t0 ≠ 0 → 0 ≤ x1) (s2 : t0 ≠ 0 → x1 < 6) (k1 : t0 = 0 → J l z X (d + 1) mX1_wake (0, 0) 46 [jR h, jI x1] [] (jG, M) Q) (k2 : t0 ≠ 0 → J l z X d mX1_aged (0, 0) 0 [jR h, jI x1, jI (M (h + 1) x1), jI (M (h + 4) x1)] [] (jG, M) (fun r μ => J l z X (d + 1) mX1_wake (0, 0) 38 [jR h, jI x1] (r.toList ++ [jI x1, jR (h + 1)]) μ Q)) : J l z X (d + 1) mX1_wake (0, 0) 13 [jR h, jI x1] [jI t0] (jG, M) Q :=
  (J_if_eq dX1_wake_13 (tgt := 46) (by decide) (fun c1 => (k1 c1)) (fun c1 => (J_aload_n dX1_wake_16 rfl (J_getR (k := 0) jcl_X1 dX1_wake_17 wf_X1_9 hh.1 (Nat.le_of_ble_eq_true rfl) rfl rfl (J_iload_n dX1_wake_20 rfl (J_aload_n dX1_wake_21 rfl (J_iload_n dX1_wake_22 rfl (J_aload_n dX1_wake_23 rfl (J_getR (k := 0) jcl_X1 dX1_wake_24 wf_X1_9 hh.1 (Nat.le_of_ble_eq_true rfl) rfl rfl (J_iload_n dX1_wake_27 rfl (J_iald dX1_wake_28 hh.2.1 (s1 c1) (s2 c1) (J_aload_n dX1_wake_29 rfl (J_getR (k := 3) jcl_X1 dX1_wake_30 wf_X1_21 hh.1 (Nat.le_of_ble_eq_true rfl) rfl rfl (J_iload_n dX1_wake_33 rfl (J_iald dX1_wake_34 hh.2.2.2.2 (s1 c1) (s2 c1) (J_callV (a1 := (0, 0)) (a2 := (0, 0)) (mm' := mX1_aged) (S := [jI x1, jR (h + 1)]) [jI x1, jI (M (h + 1) x1), jI (M (h + 4) x1)] md_X1_aged im_X1_aged se_X1_aged dX1_wake_35 wm_X1_71 jcl_X1.1 rfl hh.1 rfl rfl (Nat.le_of_ble_eq_true rfl) (Nat.le_of_ble_eq_true rfl) rfl (k2 c1)))))))))))))))))
theorem b_X1_wake_38 {l : Launch} {z d : Nat} {X : jX} {M : Nat → Int → Int} {Q : Option jV → jM → Prop} {h : Nat} {x1 : Int} {t1 : Int} {t2 : Int} (hh : jHi h) (s1 : 0 ≤ t1) (s2 : t1 < 6) (s3 : 0 ≤ x1) (s4 : x1 < 6) (k1 : J l z X d mX1_wake (0, 0) 46 [jR h, jI x1] [] (jG, (jupd (jupd M (h + 1) t1 t2) (h + 4) x1 0)) Q) : J l z X d mX1_wake (0, 0) 38 [jR h, jI x1] [jI t2, jI t1, jR (h + 1)] (jG, M) Q :=
  (J_iast dX1_wake_38 hh.2.1 s1 s2 (J_aload_n dX1_wake_39 rfl (J_getR (k := 3) jcl_X1 dX1_wake_40 wf_X1_21 hh.1 (Nat.le_of_ble_eq_true rfl) rfl rfl (J_iload_n dX1_wake_43 rfl (J_iconst dX1_wake_44 jc_0 (J_iast dX1_wake_45 hh.2.2.2.2 s3 s4 k1))))))
theorem b_X1_wake_46 {l : Launch} {z d : Nat} {X : jX} {M : Nat → Int → Int} {Q : Option jV → jM → Prop} {h : Nat} {x1 : Int} (hh : jHi h) (s1 : jIn (x1 + 1)) (k1 : J l z X d mX1_wake (0, 0) 2 [jR h, jI (x1 + 1)] [] (jG, M) Q) : J l z X d mX1_wake (0, 0) 46 [jR h, jI x1] [] (jG, M) Q :=
  (J_iinc dX1_wake_46 rfl jc_1 s1 (J_goto dX1_wake_49 (tgt := 2) (by decide) k1))
theorem b_X1_aged_0 {l : Launch} {z d : Nat} {X : jX} {M : Nat → Int → Int} {Q : Option jV → jM → Prop} {h : Nat} {x1 : Int} {x2 : Int} {x3 : Int} (hh : jHi h)  (k1 : J l z X d mX1_has (0, 0) 0 [jR h, jI x1] [] (jG, M) (fun r μ => J l z X (d + 1) mX1_aged (0, 0) 5 [jR h, jI x1, jI x2, jI x3] (r.toList ++ []) μ Q)) : J l z X (d + 1) mX1_aged (0, 0) 0 [jR h, jI x1, jI x2, jI x3] [] (jG, M) Q :=
  (J_aload_n dX1_aged_0 rfl (J_iload_n dX1_aged_1 rfl (J_callV (a1 := (0, 0)) (a2 := (0, 0)) (mm' := mX1_has) (S := []) [jI x1] md_X1_has im_X1_has se_X1_has dX1_aged_2 wm_X1_40 jcl_X1.1 rfl hh.1 rfl rfl (Nat.le_of_ble_eq_true rfl) (Nat.le_of_ble_eq_true rfl) rfl k1)))
theorem b_X1_aged_5 {l : Launch} {z d : Nat} {X : jX} {M : Nat → Int → Int} {Q : Option jV → jM → Prop} {h : Nat} {x1 : Int} {x2 : Int} {x3 : Int} {t0 : Int} (hh : jHi h) (s1 : t0 ≠ 0 → x3 ≠ 1 → x3 ≠ 0 → 0 ≤ x1) (s2 : t0 ≠ 0 → x3 ≠ 1 → x3 ≠ 0 → x1 < 6) (s3 : t0 ≠ 0 → x3 ≠ 1 → x3 ≠ 0 → jIn (x2 - (M (h + 2) x1))) (s4 : t0 ≠ 0 → x3 ≠ 1 → x3 = 0 → 0 ≤ x1) (s5 : t0 ≠ 0 → x3 ≠ 1 → x3 = 0 → x1 < 6) (s6 : t0 ≠ 0 → x3 ≠ 1 → x3 = 0 → jIn (x2 + (M (h + 2) x1))) (k1 : t0 = 0 → Q (some (jI x2)) (jG, M)) (k2 : t0 ≠ 0 → x3 ≠ 1 → x3 ≠ 0 → Q (some (jI (max (M (h + 3) x1) (x2 - (M (h + 2) x1))))) (jG, M)) (k3 : t0 ≠ 0 → x3 ≠ 1 → x3 = 0 → Q (some (jI (min 99 (x2 + (M (h + 2) x1))))) (jG, M)) (k4 : t0 ≠ 0 → x3 = 1 → Q (some (jI x2)) (jG, M)) : J l z X (d + 1) mX1_aged (0, 0) 5 [jR h, jI x1, jI x2, jI x3] [jI t0] (jG, M) Q :=
  (J_if_eq dX1_aged_5 (tgt := 13) (by decide) (fun c1 => (J_iload_n dX1_aged_13 rfl (J_iret dX1_aged_14 rfl (k1 c1)))) (fun c1 => (J_iload_n dX1_aged_8 rfl (J_iconst dX1_aged_9 jc_1 (J_icmp_ne dX1_aged_10 (tgt := 15) (by decide) (fun c2 => (J_iload_n dX1_aged_15 rfl (J_if_ne dX1_aged_16 (tgt := 35) (by decide) (fun c3 => (J_aload_n dX1_aged_35 rfl (J_getR (k := 2) jcl_X1 dX1_aged_36 wf_X1_18 hh.1 (Nat.le_of_ble_eq_true rfl) rfl rfl (J_iload_n dX1_aged_39 rfl (J_iald dX1_aged_40 hh.2.2.2.1 (s1 c1 c2 c3) (s2 c1 c2 c3) (J_iload_n dX1_aged_41 rfl (J_aload_n dX1_aged_42 rfl (J_getR (k := 1) jcl_X1 dX1_aged_43 wf_X1_15 hh.1 (Nat.le_of_ble_eq_true rfl) rfl rfl (J_iload_n dX1_aged_46 rfl (J_iald dX1_aged_47 hh.2.2.1 (s1 c1 c2 c3) (s2 c1 c2 c3) (J_isub dX1_aged_48 (s3 c1 c2 c3) (J_mmax dX1_aged_49 wm_X1_79 is_J9_max_7cf53 wi_J9 mc_J9_max_7cf53 (by omega) (Nat.le_of_ble_eq_true rfl) (J_iret dX1_aged_52 rfl (k2 c1 c2 c3)))))))))))))) (fun c3 => (J_bipush dX1_aged_19 jc_99 jb_99 (J_iload_n dX1_aged_21 rfl (J_aload_n dX1_aged_22 rfl (J_getR (k := 1) jcl_X1 dX1_aged_23 wf_X1_15 hh.1 (Nat.le_of_ble_eq_true rfl) rfl rfl (J_iload_n dX1_aged_26 rfl (J_iald dX1_aged_27 hh.2.2.1 (s4 c1 c2 c3) (s5 c1 c2 c3) (J_iadd dX1_aged_28 (s6 c1 c2 c3) (J_mmin dX1_aged_29 wm_X1_74 is_J9_min_7cf53 wi_J9 mc_J9_min_7cf53 (by omega) (Nat.le_of_ble_eq_true rfl) (J_goto dX1_aged_32 (tgt := 52) (by decide) (J_iret dX1_aged_52 rfl (k3 c1 c2 c3))))))))))))))) (fun c2 => (J_iload_n dX1_aged_13 rfl (J_iret dX1_aged_14 rfl (k4 c1 c2)))))))))
theorem b_X1_oldestOne_0 {l : Launch} {z d : Nat} {X : jX} {M : Nat → Int → Int} {Q : Option jV → jM → Prop} {h : Nat} (hh : jHi h)  (k1 : J l z X d mX1_oldestOne (0, 0) 7 [jR h, jI (-6), jI (-1), jI 0] [] (jG, M) Q) : J l z X d mX1_oldestOne (0, 0) 0 [jR h, jN, jN, jN] [] (jG, M) Q :=
  (J_bipush dX1_oldestOne_0 jc_m6 jb_m6 (J_istore_n dX1_oldestOne_2 (Nat.le_of_ble_eq_true rfl) (J_iconst dX1_oldestOne_3 jc_m1 (J_istore_n dX1_oldestOne_4 (Nat.le_of_ble_eq_true rfl) (J_iconst dX1_oldestOne_5 jc_0 (J_istore_n dX1_oldestOne_6 (Nat.le_of_ble_eq_true rfl) k1))))))
theorem b_X1_oldestOne_7 {l : Launch} {z d : Nat} {X : jX} {M : Nat → Int → Int} {Q : Option jV → jM → Prop} {h : Nat} {x1 : Int} {x2 : Int} {x3 : Int} (hh : jHi h)  (k1 : 6 ≤ x3 → Q (some (jI x1)) (jG, M)) (k2 : x3 < 6 → J l z X d mX1_has (0, 0) 0 [jR h, jI x3] [] (jG, M) (fun r μ => J l z X (d + 1) mX1_oldestOne (0, 0) 18 [jR h, jI x1, jI x2, jI x3] (r.toList ++ []) μ Q)) : J l z X (d + 1) mX1_oldestOne (0, 0) 7 [jR h, jI x1, jI x2, jI x3] [] (jG, M) Q :=
  (J_iload_n dX1_oldestOne_7 rfl (J_bipush dX1_oldestOne_8 jc_6 jb_6 (J_icmp_ge dX1_oldestOne_10 (tgt := 46) (by decide) (fun c1 => (J_iload_n dX1_oldestOne_46 rfl (J_iret dX1_oldestOne_47 rfl (k1 c1)))) (fun c1 => (J_aload_n dX1_oldestOne_13 rfl (J_iload_n dX1_oldestOne_14 rfl (J_callV (a1 := (0, 0)) (a2 := (0, 0)) (mm' := mX1_has) (S := []) [jI x3] md_X1_has im_X1_has se_X1_has dX1_oldestOne_15 wm_X1_40 jcl_X1.1 rfl hh.1 rfl rfl (Nat.le_of_ble_eq_true rfl) (Nat.le_of_ble_eq_true rfl) rfl (k2 c1))))))))
theorem b_X1_oldestOne_18 {l : Launch} {z d : Nat} {X : jX} {M : Nat → Int → Int} {Q : Option jV → jM → Prop} {h : Nat} {x1 : Int} {x2 : Int} {x3 : Int} {t0 : Int} (hh : jHi h) (s1 : t0 ≠ 0 → 0 ≤ x3) (s2 : t0 ≠ 0 → x3 < 6) (s3 : t0 ≠ 0 → x2 < (M (h + 1) x3) → 0 ≤ x3) (s4 : t0 ≠ 0 → x2 < (M (h + 1) x3) → x3 < 6) (k1 : t0 = 0 → J l z X d mX1_oldestOne (0, 0) 40 [jR h, jI x1, jI x2, jI x3] [] (jG, M) Q) (k2 : t0 ≠ 0 → (M (h + 1) x3) ≤ x2 → J l z X d mX1_oldestOne (0, 0) 40 [jR h, jI x1, jI x2, jI x3] [] (jG, M) Q) (k3 : t0 ≠ 0 → x2 < (M (h + 1) x3) → J l z X d mX1_oldestOne (0, 0) 40 [jR h, jI x3, jI (M (h + 1) x3), jI x3] [] (jG, M) Q) : J l z X d mX1_oldestOne (0, 0) 18 [jR h, jI x1, jI x2, jI x3] [jI t0] (jG, M) Q :=
  (J_if_eq dX1_oldestOne_18 (tgt := 40) (by decide) (fun c1 => (k1 c1)) (fun c1 => (J_aload_n dX1_oldestOne_21 rfl (J_getR (k := 0) jcl_X1 dX1_oldestOne_22 wf_X1_9 hh.1 (Nat.le_of_ble_eq_true rfl) rfl rfl (J_iload_n dX1_oldestOne_25 rfl (J_iald dX1_oldestOne_26 hh.2.1 (s1 c1) (s2 c1) (J_iload_n dX1_oldestOne_27 rfl (J_icmp_le dX1_oldestOne_28 (tgt := 40) (by decide) (fun c2 => (k2 c1 c2)) (fun c2 => (J_iload_n dX1_oldestOne_31 rfl (J_istore_n dX1_oldestOne_32 (Nat.le_of_ble_eq_true rfl) (J_aload_n dX1_oldestOne_33 rfl (J_getR (k := 0) jcl_X1 dX1_oldestOne_34 wf_X1_9 hh.1 (Nat.le_of_ble_eq_true rfl) rfl rfl (J_iload_n dX1_oldestOne_37 rfl (J_iald dX1_oldestOne_38 hh.2.1 (s3 c1 c2) (s4 c1 c2) (J_istore_n dX1_oldestOne_39 (Nat.le_of_ble_eq_true rfl) (k3 c1 c2)))))))))))))))))
theorem b_X1_oldestOne_40 {l : Launch} {z d : Nat} {X : jX} {M : Nat → Int → Int} {Q : Option jV → jM → Prop} {h : Nat} {x1 : Int} {x2 : Int} {x3 : Int} (hh : jHi h) (s1 : jIn (x3 + 1)) (k1 : J l z X d mX1_oldestOne (0, 0) 7 [jR h, jI x1, jI x2, jI (x3 + 1)] [] (jG, M) Q) : J l z X d mX1_oldestOne (0, 0) 40 [jR h, jI x1, jI x2, jI x3] [] (jG, M) Q :=
  (J_iinc dX1_oldestOne_40 rfl jc_1 s1 (J_goto dX1_oldestOne_43 (tgt := 7) (by decide) k1))
theorem b_X1_looksTogether_0 {l : Launch} {z d : Nat} {X : jX} {M : Nat → Int → Int} {Q : Option jV → jM → Prop} {h : Nat} (hh : jHi h)  (k1 : J l z X d mX1_looksTogether (0, 0) 4 [jR h, jI 0, jI 0] [] (jG, M) Q) : J l z X d mX1_looksTogether (0, 0) 0 [jR h, jN, jN] [] (jG, M) Q :=
  (J_iconst dX1_looksTogether_0 jc_0 (J_istore_n dX1_looksTogether_1 (Nat.le_of_ble_eq_true rfl) (J_iconst dX1_looksTogether_2 jc_0 (J_istore_n dX1_looksTogether_3 (Nat.le_of_ble_eq_true rfl) k1))))
theorem b_X1_looksTogether_4 {l : Launch} {z d : Nat} {X : jX} {M : Nat → Int → Int} {Q : Option jV → jM → Prop} {h : Nat} {x1 : Int} {x2 : Int} (hh : jHi h)  (k1 : 6 ≤ x2 → Q (some (jI x1)) (jG, M)) (k2 : x2 < 6 → J l z X d mX1_has (0, 0) 0 [jR h, jI x2] [] (jG, M) (fun r μ => J l z X (d + 1) mX1_looksTogether (0, 0) 16 [jR h, jI x1, jI x2] (r.toList ++ [jI x1]) μ Q)) : J l z X (d + 1) mX1_looksTogether (0, 0) 4 [jR h, jI x1, jI x2] [] (jG, M) Q :=
  (J_iload_n dX1_looksTogether_4 rfl (J_bipush dX1_looksTogether_5 jc_6 jb_6 (J_icmp_ge dX1_looksTogether_7 (tgt := 37) (by decide) (fun c1 => (J_iload_n dX1_looksTogether_37 rfl (J_iret dX1_looksTogether_38 rfl (k1 c1)))) (fun c1 => (J_iload_n dX1_looksTogether_10 rfl (J_aload_n dX1_looksTogether_11 rfl (J_iload_n dX1_looksTogether_12 rfl (J_callV (a1 := (0, 0)) (a2 := (0, 0)) (mm' := mX1_has) (S := [jI x1]) [jI x2] md_X1_has im_X1_has se_X1_has dX1_looksTogether_13 wm_X1_40 jcl_X1.1 rfl hh.1 rfl rfl (Nat.le_of_ble_eq_true rfl) (Nat.le_of_ble_eq_true rfl) rfl (k2 c1)))))))))
theorem b_X1_looksTogether_16 {l : Launch} {z d : Nat} {X : jX} {M : Nat → Int → Int} {Q : Option jV → jM → Prop} {h : Nat} {x1 : Int} {x2 : Int} {t0 : Int} {t1 : Int} (hh : jHi h) (s1 : t1 ≠ 0 → 0 ≤ x2) (s2 : t1 ≠ 0 → x2 < 6) (k1 : t1 = 0 → J l z X d mX1_looksTogether (0, 0) 29 [jR h, jI x1, jI x2] [jI 0, jI t0] (jG, M) Q) (k2 : t1 ≠ 0 → J l z X d mX1_looksTogether (0, 0) 29 [jR h, jI x1, jI x2] [jI (M (h + 1) x2), jI t0] (jG, M) Q) : J l z X d mX1_looksTogether (0, 0) 16 [jR h, jI x1, jI x2] [jI t1, jI t0] (jG, M) Q :=
  (J_if_eq dX1_looksTogether_16 (tgt := 28) (by decide) (fun c1 => (J_iconst dX1_looksTogether_28 jc_0 (k1 c1))) (fun c1 => (J_aload_n dX1_looksTogether_19 rfl (J_getR (k := 0) jcl_X1 dX1_looksTogether_20 wf_X1_9 hh.1 (Nat.le_of_ble_eq_true rfl) rfl rfl (J_iload_n dX1_looksTogether_23 rfl (J_iald dX1_looksTogether_24 hh.2.1 (s1 c1) (s2 c1) (J_goto dX1_looksTogether_25 (tgt := 29) (by decide) (k2 c1))))))))
theorem b_X1_looksTogether_29 {l : Launch} {z d : Nat} {X : jX} {M : Nat → Int → Int} {Q : Option jV → jM → Prop} {h : Nat} {x1 : Int} {x2 : Int} {t0 : Int} {t1 : Int} (hh : jHi h) (s1 : jIn (t0 + t1)) (s2 : jIn (x2 + 1)) (k1 : J l z X d mX1_looksTogether (0, 0) 4 [jR h, jI (t0 + t1), jI (x2 + 1)] [] (jG, M) Q) : J l z X d mX1_looksTogether (0, 0) 29 [jR h, jI x1, jI x2] [jI t1, jI t0] (jG, M) Q :=
  (J_iadd dX1_looksTogether_29 s1 (J_istore_n dX1_looksTogether_30 (Nat.le_of_ble_eq_true rfl) (J_iinc dX1_looksTogether_31 rfl jc_1 s2 (J_goto dX1_looksTogether_34 (tgt := 4) (by decide) k1))))
theorem b_J6_compare_7cf53_0 {l : Launch} {z d : Nat} {X : jX} {M : Nat → Int → Int} {Q : Option jV → jM → Prop} {x0 : Int} {x1 : Int}   (k1 : x1 ≤ x0 → x0 ≠ x1 → Q (some (jI 1)) (jG, M)) (k2 : x1 ≤ x0 → x0 = x1 → Q (some (jI 0)) (jG, M)) (k3 : x0 < x1 → Q (some (jI (-1))) (jG, M)) : J l z X d mJ6_compare_7cf53 (0, 0) 0 [jI x0, jI x1] [] (jG, M) Q :=
  (J_iload_n dJ6_compare_7cf53_0 rfl (J_iload_n dJ6_compare_7cf53_1 rfl (J_icmp_ge dJ6_compare_7cf53_2 (tgt := 9) (by decide) (fun c1 => (J_iload_n dJ6_compare_7cf53_9 rfl (J_iload_n dJ6_compare_7cf53_10 rfl (J_icmp_ne dJ6_compare_7cf53_11 (tgt := 18) (by decide) (fun c2 => (J_iconst dJ6_compare_7cf53_18 jc_1 (J_iret dJ6_compare_7cf53_19 rfl (k1 c1 c2)))) (fun c2 => (J_iconst dJ6_compare_7cf53_14 jc_0 (J_goto dJ6_compare_7cf53_15 (tgt := 19) (by decide) (J_iret dJ6_compare_7cf53_19 rfl (k2 c1 c2))))))))) (fun c1 => (J_iconst dJ6_compare_7cf53_5 jc_m1 (J_goto dJ6_compare_7cf53_6 (tgt := 19) (by decide) (J_iret dJ6_compare_7cf53_19 rfl (k3 c1))))))))
theorem b_J6_bitCount_0f7a4_0 {l : Launch} {z d : Nat} {X : jX} {M : Nat → Int → Int} {Q : Option jV → jM → Prop} {x0 : Int}  (s1 : jIn (x0 - (jand (jushr x0 1) 1431655765))) (s2 : jIn ((jand (x0 - (jand (jushr x0 1) 1431655765)) 858993459) + (jand (jushr (x0 - (jand (jushr x0 1) 1431655765)) 2) 858993459))) (s3 : jIn (((jand (x0 - (jand (jushr x0 1) 1431655765)) 858993459) + (jand (jushr (x0 - (jand (jushr x0 1) 1431655765)) 2) 858993459)) + (jushr ((jand (x0 - (jand (jushr x0 1) 1431655765)) 858993459) + (jand (jushr (x0 - (jand (jushr x0 1) 1431655765)) 2) 858993459)) 4))) (s4 : jIn ((jand (((jand (x0 - (jand (jushr x0 1) 1431655765)) 858993459) + (jand (jushr (x0 - (jand (jushr x0 1) 1431655765)) 2) 858993459)) + (jushr ((jand (x0 - (jand (jushr x0 1) 1431655765)) 858993459) + (jand (jushr (x0 - (jand (jushr x0 1) 1431655765)) 2) 858993459)) 4)) 252645135) + (jushr (jand (((jand (x0 - (jand (jushr x0 1) 1431655765)) 858993459) + (jand (jushr (x0 - (jand (jushr x0 1) 1431655765)) 2) 858993459)) + (jushr ((jand (x0 - (jand (jushr x0 1) 1431655765)) 858993459) + (jand (jushr (x0 - (jand (jushr x0 1) 1431655765)) 2) 858993459)) 4)) 252645135) 8))) (s5 : jIn (((jand (((jand (x0 - (jand (jushr x0 1) 1431655765)) 858993459) + (jand (jushr (x0 - (jand (jushr x0 1) 1431655765)) 2) 858993459)) + (jushr ((jand (x0 - (jand (jushr x0 1) 1431655765)) 858993459) + (jand (jushr (x0 - (jand (jushr x0 1) 1431655765)) 2) 858993459)) 4)) 252645135) + (jushr (jand (((jand (x0 - (jand (jushr x0 1) 1431655765)) 858993459) + (jand (jushr (x0 - (jand (jushr x0 1) 1431655765)) 2) 858993459)) + (jushr ((jand (x0 - (jand (jushr x0 1) 1431655765)) 858993459) + (jand (jushr (x0 - (jand (jushr x0 1) 1431655765)) 2) 858993459)) 4)) 252645135) 8)) + (jushr ((jand (((jand (x0 - (jand (jushr x0 1) 1431655765)) 858993459) + (jand (jushr (x0 - (jand (jushr x0 1) 1431655765)) 2) 858993459)) + (jushr ((jand (x0 - (jand (jushr x0 1) 1431655765)) 858993459) + (jand (jushr (x0 - (jand (jushr x0 1) 1431655765)) 2) 858993459)) 4)) 252645135) + (jushr (jand (((jand (x0 - (jand (jushr x0 1) 1431655765)) 858993459) + (jand (jushr (x0 - (jand (jushr x0 1) 1431655765)) 2) 858993459)) + (jushr ((jand (x0 - (jand (jushr x0 1) 1431655765)) 858993459) + (jand (jushr (x0 - (jand (jushr x0 1) 1431655765)) 2) 858993459)) 4)) 252645135) 8)) 16))) (k1 : Q (some (jI (jand (((jand (((jand (x0 - (jand (jushr x0 1) 1431655765)) 858993459) + (jand (jushr (x0 - (jand (jushr x0 1) 1431655765)) 2) 858993459)) + (jushr ((jand (x0 - (jand (jushr x0 1) 1431655765)) 858993459) + (jand (jushr (x0 - (jand (jushr x0 1) 1431655765)) 2) 858993459)) 4)) 252645135) + (jushr (jand (((jand (x0 - (jand (jushr x0 1) 1431655765)) 858993459) + (jand (jushr (x0 - (jand (jushr x0 1) 1431655765)) 2) 858993459)) + (jushr ((jand (x0 - (jand (jushr x0 1) 1431655765)) 858993459) + (jand (jushr (x0 - (jand (jushr x0 1) 1431655765)) 2) 858993459)) 4)) 252645135) 8)) + (jushr ((jand (((jand (x0 - (jand (jushr x0 1) 1431655765)) 858993459) + (jand (jushr (x0 - (jand (jushr x0 1) 1431655765)) 2) 858993459)) + (jushr ((jand (x0 - (jand (jushr x0 1) 1431655765)) 858993459) + (jand (jushr (x0 - (jand (jushr x0 1) 1431655765)) 2) 858993459)) 4)) 252645135) + (jushr (jand (((jand (x0 - (jand (jushr x0 1) 1431655765)) 858993459) + (jand (jushr (x0 - (jand (jushr x0 1) 1431655765)) 2) 858993459)) + (jushr ((jand (x0 - (jand (jushr x0 1) 1431655765)) 858993459) + (jand (jushr (x0 - (jand (jushr x0 1) 1431655765)) 2) 858993459)) 4)) 252645135) 8)) 16)) 63))) (jG, M)) : J l z X d mJ6_bitCount_0f7a4 (0, 0) 0 [jI x0] [] (jG, M) Q :=
  (J_iload_n dJ6_bitCount_0f7a4_0 rfl (J_iload_n dJ6_bitCount_0f7a4_1 rfl (J_iconst dJ6_bitCount_0f7a4_2 jc_1 (J_iushr dJ6_bitCount_0f7a4_3 (J_ldcw dJ6_bitCount_0f7a4_4 (lw_J6_265) lcl_J6_265 rfl (J_iand dJ6_bitCount_0f7a4_7 (J_isub dJ6_bitCount_0f7a4_8 s1 (J_istore_n dJ6_bitCount_0f7a4_9 (Nat.le_of_ble_eq_true rfl) (J_iload_n dJ6_bitCount_0f7a4_10 rfl (J_ldcw dJ6_bitCount_0f7a4_11 (lw_J6_266) lcl_J6_266 rfl (J_iand dJ6_bitCount_0f7a4_14 (J_iload_n dJ6_bitCount_0f7a4_15 rfl (J_iconst dJ6_bitCount_0f7a4_16 jc_2 (J_iushr dJ6_bitCount_0f7a4_17 (J_ldcw dJ6_bitCount_0f7a4_18 (lw_J6_266) lcl_J6_266 rfl (J_iand dJ6_bitCount_0f7a4_21 (J_iadd dJ6_bitCount_0f7a4_22 s2 (J_istore_n dJ6_bitCount_0f7a4_23 (Nat.le_of_ble_eq_true rfl) (J_iload_n dJ6_bitCount_0f7a4_24 rfl (J_iload_n dJ6_bitCount_0f7a4_25 rfl (J_iconst dJ6_bitCount_0f7a4_26 jc_4 (J_iushr dJ6_bitCount_0f7a4_27 (J_iadd dJ6_bitCount_0f7a4_28 s3 (J_ldcw dJ6_bitCount_0f7a4_29 (lw_J6_267) lcl_J6_267 rfl (J_iand dJ6_bitCount_0f7a4_32 (J_istore_n dJ6_bitCount_0f7a4_33 (Nat.le_of_ble_eq_true rfl) (J_iload_n dJ6_bitCount_0f7a4_34 rfl (J_iload_n dJ6_bitCount_0f7a4_35 rfl (J_bipush dJ6_bitCount_0f7a4_36 jc_8 jb_8 (J_iushr dJ6_bitCount_0f7a4_38 (J_iadd dJ6_bitCount_0f7a4_39 s4 (J_istore_n dJ6_bitCount_0f7a4_40 (Nat.le_of_ble_eq_true rfl) (J_iload_n dJ6_bitCount_0f7a4_41 rfl (J_iload_n dJ6_bitCount_0f7a4_42 rfl (J_bipush dJ6_bitCount_0f7a4_43 jc_16 jb_16 (J_iushr dJ6_bitCount_0f7a4_45 (J_iadd dJ6_bitCount_0f7a4_46 s5 (J_istore_n dJ6_bitCount_0f7a4_47 (Nat.le_of_ble_eq_true rfl) (J_iload_n dJ6_bitCount_0f7a4_48 rfl (J_bipush dJ6_bitCount_0f7a4_49 jc_63 jb_63 (J_iand dJ6_bitCount_0f7a4_51 (J_iret dJ6_bitCount_0f7a4_52 rfl k1))))))))))))))))))))))))))))))))))))))))))
