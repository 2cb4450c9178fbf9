theorem dX5_init_0 : decode cX5_init 0 = .ok (.aload_n 0, 1) := by decide +kernel
theorem dX5_init_1 : decode cX5_init 1 = .ok (.invokespecial 3, 3) := by decide +kernel
theorem dX5_init_4 : decode cX5_init 4 = .ok (.aload_n 0, 1) := by decide +kernel
theorem dX5_init_5 : decode cX5_init 5 = .ok (.bipush 6, 2) := by decide +kernel
theorem dX5_init_7 : decode cX5_init 7 = .ok (.newarray .int, 2) := by decide +kernel
theorem dX5_init_9 : decode cX5_init 9 = .ok (.putfield 9, 3) := by decide +kernel
theorem dX5_init_12 : decode cX5_init 12 = .ok (.return_, 1) := by decide +kernel
theorem dX5_weigh_0 : decode cX5_weigh 0 = .ok (.aload_n 0, 1) := by decide +kernel
theorem dX5_weigh_1 : decode cX5_weigh 1 = .ok (.iconst 0, 1) := by decide +kernel
theorem dX5_weigh_2 : decode cX5_weigh 2 = .ok (.putfield 15, 3) := by decide +kernel
theorem dX5_weigh_5 : decode cX5_weigh 5 = .ok (.aload_n 0, 1) := by decide +kernel
theorem dX5_weigh_6 : decode cX5_weigh 6 = .ok (.bipush (-6), 2) := by decide +kernel
theorem dX5_weigh_8 : decode cX5_weigh 8 = .ok (.putfield 19, 3) := by decide +kernel
theorem dX5_weigh_11 : decode cX5_weigh 11 = .ok (.aload_n 0, 1) := by decide +kernel
theorem dX5_weigh_12 : decode cX5_weigh 12 = .ok (.aload_n 1, 1) := by decide +kernel
theorem dX5_weigh_13 : decode cX5_weigh 13 = .ok (.iconst 0, 1) := by decide +kernel
theorem dX5_weigh_14 : decode cX5_weigh 14 = .ok (.iload_n 2, 1) := by decide +kernel
theorem dX5_weigh_15 : decode cX5_weigh 15 = .ok (.iconst 0, 1) := by decide +kernel
theorem dX5_weigh_16 : decode cX5_weigh 16 = .ok (.invokevirtual 22, 3) := by decide +kernel
theorem dX5_weigh_19 : decode cX5_weigh 19 = .ok (.return_, 1) := by decide +kernel
theorem dX5_share_0 : decode cX5_share 0 = .ok (.iload_n 2, 1) := by decide +kernel
theorem dX5_share_1 : decode cX5_share 1 = .ok (.ifCond .lt 9, 3) := by decide +kernel
theorem dX5_share_4 : decode cX5_share 4 = .ok (.iload_n 2, 1) := by decide +kernel
theorem dX5_share_5 : decode cX5_share 5 = .ok (.bipush 6, 2) := by decide +kernel
theorem dX5_share_7 : decode cX5_share 7 = .ok (.if_icmp .lt 13, 3) := by decide +kernel
theorem dX5_share_10 : decode cX5_share 10 = .ok (.aload_n 0, 1) := by decide +kernel
theorem dX5_share_11 : decode cX5_share 11 = .ok (.iload_n 3, 1) := by decide +kernel
theorem dX5_share_12 : decode cX5_share 12 = .ok (.iload 4, 2) := by decide +kernel
theorem dX5_share_14 : decode cX5_share 14 = .ok (.invokevirtual 26, 3) := by decide +kernel
theorem dX5_share_17 : decode cX5_share 17 = .ok (.goto 99, 3) := by decide +kernel
theorem dX5_share_20 : decode cX5_share 20 = .ok (.aload_n 1, 1) := by decide +kernel
theorem dX5_share_21 : decode cX5_share 21 = .ok (.iload_n 2, 1) := by decide +kernel
theorem dX5_share_22 : decode cX5_share 22 = .ok (.invokevirtual 30, 3) := by decide +kernel
theorem dX5_share_25 : decode cX5_share 25 = .ok (.ifCond .ne 22, 3) := by decide +kernel
theorem dX5_share_28 : decode cX5_share 28 = .ok (.aload_n 0, 1) := by decide +kernel
theorem dX5_share_29 : decode cX5_share 29 = .ok (.aload_n 1, 1) := by decide +kernel
theorem dX5_share_30 : decode cX5_share 30 = .ok (.iload_n 2, 1) := by decide +kernel
theorem dX5_share_31 : decode cX5_share 31 = .ok (.iconst 1, 1) := by decide +kernel
theorem dX5_share_32 : decode cX5_share 32 = .ok (.iadd, 1) := by decide +kernel
theorem dX5_share_33 : decode cX5_share 33 = .ok (.iload_n 3, 1) := by decide +kernel
theorem dX5_share_34 : decode cX5_share 34 = .ok (.iload 4, 2) := by decide +kernel
theorem dX5_share_36 : decode cX5_share 36 = .ok (.bipush 10, 2) := by decide +kernel
theorem dX5_share_38 : decode cX5_share 38 = .ok (.imul, 1) := by decide +kernel
theorem dX5_share_39 : decode cX5_share 39 = .ok (.iconst 3, 1) := by decide +kernel
theorem dX5_share_40 : decode cX5_share 40 = .ok (.iadd, 1) := by decide +kernel
theorem dX5_share_41 : decode cX5_share 41 = .ok (.invokevirtual 22, 3) := by decide +kernel
theorem dX5_share_44 : decode cX5_share 44 = .ok (.goto 72, 3) := by decide +kernel
theorem dX5_share_47 : decode cX5_share 47 = .ok (.iconst 0, 1) := by decide +kernel
theorem dX5_share_48 : decode cX5_share 48 = .ok (.istore 5, 2) := by decide +kernel
theorem dX5_share_50 : decode cX5_share 50 = .ok (.iload 5, 2) := by decide +kernel
theorem dX5_share_52 : decode cX5_share 52 = .ok (.iconst 2, 1) := by decide +kernel
theorem dX5_share_53 : decode cX5_share 53 = .ok (.if_icmp .gt 63, 3) := by decide +kernel
theorem dX5_share_56 : decode cX5_share 56 = .ok (.iload 5, 2) := by decide +kernel
theorem dX5_share_58 : decode cX5_share 58 = .ok (.iload_n 3, 1) := by decide +kernel
theorem dX5_share_59 : decode cX5_share 59 = .ok (.if_icmp .gt 57, 3) := by decide +kernel
theorem dX5_share_62 : decode cX5_share 62 = .ok (.aload_n 0, 1) := by decide +kernel
theorem dX5_share_63 : decode cX5_share 63 = .ok (.getfield 9, 3) := by decide +kernel
theorem dX5_share_66 : decode cX5_share 66 = .ok (.iload_n 2, 1) := by decide +kernel
theorem dX5_share_67 : decode cX5_share 67 = .ok (.aload_n 1, 1) := by decide +kernel
theorem dX5_share_68 : decode cX5_share 68 = .ok (.iload_n 2, 1) := by decide +kernel
theorem dX5_share_69 : decode cX5_share 69 = .ok (.aload_n 1, 1) := by decide +kernel
theorem dX5_share_70 : decode cX5_share 70 = .ok (.getfield 36, 3) := by decide +kernel
theorem dX5_share_73 : decode cX5_share 73 = .ok (.iload_n 2, 1) := by decide +kernel
theorem dX5_share_74 : decode cX5_share 74 = .ok (.iaload, 1) := by decide +kernel
theorem dX5_share_75 : decode cX5_share 75 = .ok (.iload 5, 2) := by decide +kernel
theorem dX5_share_77 : decode cX5_share 77 = .ok (.invokevirtual 39, 3) := by decide +kernel
theorem dX5_share_80 : decode cX5_share 80 = .ok (.iastore, 1) := by decide +kernel
theorem dX5_share_81 : decode cX5_share 81 = .ok (.aload_n 0, 1) := by decide +kernel
theorem dX5_share_82 : decode cX5_share 82 = .ok (.aload_n 1, 1) := by decide +kernel
theorem dX5_share_83 : decode cX5_share 83 = .ok (.iload_n 2, 1) := by decide +kernel
theorem dX5_share_84 : decode cX5_share 84 = .ok (.invokevirtual 43, 3) := by decide +kernel
theorem dX5_share_87 : decode cX5_share 87 = .ok (.ifCond .ne 23, 3) := by decide +kernel
theorem dX5_share_90 : decode cX5_share 90 = .ok (.aload_n 0, 1) := by decide +kernel
theorem dX5_share_91 : decode cX5_share 91 = .ok (.aload_n 1, 1) := by decide +kernel
theorem dX5_share_92 : decode cX5_share 92 = .ok (.iload_n 2, 1) := by decide +kernel
theorem dX5_share_93 : decode cX5_share 93 = .ok (.iconst 1, 1) := by decide +kernel
theorem dX5_share_94 : decode cX5_share 94 = .ok (.iadd, 1) := by decide +kernel
theorem dX5_share_95 : decode cX5_share 95 = .ok (.iload_n 3, 1) := by decide +kernel
theorem dX5_share_96 : decode cX5_share 96 = .ok (.iload 5, 2) := by decide +kernel
theorem dX5_share_98 : decode cX5_share 98 = .ok (.isub, 1) := by decide +kernel
theorem dX5_share_99 : decode cX5_share 99 = .ok (.iload 4, 2) := by decide +kernel
theorem dX5_share_101 : decode cX5_share 101 = .ok (.bipush 10, 2) := by decide +kernel
theorem dX5_share_103 : decode cX5_share 103 = .ok (.imul, 1) := by decide +kernel
theorem dX5_share_104 : decode cX5_share 104 = .ok (.iload 5, 2) := by decide +kernel
theorem dX5_share_106 : decode cX5_share 106 = .ok (.iadd, 1) := by decide +kernel
theorem dX5_share_107 : decode cX5_share 107 = .ok (.invokevirtual 22, 3) := by decide +kernel
theorem dX5_share_110 : decode cX5_share 110 = .ok (.iinc 5 1, 3) := by decide +kernel
theorem dX5_share_113 : decode cX5_share 113 = .ok (.goto (-63), 3) := by decide +kernel
theorem dX5_share_116 : decode cX5_share 116 = .ok (.return_, 1) := by decide +kernel
theorem dX5_addShare_0 : decode cX5_addShare 0 = .ok (.iload_n 1, 1) := by decide +kernel
theorem dX5_addShare_1 : decode cX5_addShare 1 = .ok (.ifCond .ne 32, 3) := by decide +kernel
theorem dX5_addShare_4 : decode cX5_addShare 4 = .ok (.aload_n 0, 1) := by decide +kernel
theorem dX5_addShare_5 : decode cX5_addShare 5 = .ok (.aload_n 0, 1) := by decide +kernel
theorem dX5_addShare_6 : decode cX5_addShare 6 = .ok (.getfield 15, 3) := by decide +kernel
theorem dX5_addShare_9 : decode cX5_addShare 9 = .ok (.ifCond .ne 7, 3) := by decide +kernel
theorem dX5_addShare_12 : decode cX5_addShare 12 = .ok (.iload_n 2, 1) := by decide +kernel
theorem dX5_addShare_13 : decode cX5_addShare 13 = .ok (.goto 7, 3) := by decide +kernel
theorem dX5_addShare_16 : decode cX5_addShare 16 = .ok (.aload_n 0, 1) := by decide +kernel
theorem dX5_addShare_17 : decode cX5_addShare 17 = .ok (.getfield 19, 3) := by decide +kernel
theorem dX5_addShare_20 : decode cX5_addShare 20 = .ok (.putfield 19, 3) := by decide +kernel
theorem dX5_addShare_23 : decode cX5_addShare 23 = .ok (.aload_n 0, 1) := by decide +kernel
theorem dX5_addShare_24 : decode cX5_addShare 24 = .ok (.dup, 1) := by decide +kernel
theorem dX5_addShare_25 : decode cX5_addShare 25 = .ok (.getfield 15, 3) := by decide +kernel
theorem dX5_addShare_28 : decode cX5_addShare 28 = .ok (.iconst 1, 1) := by decide +kernel
theorem dX5_addShare_29 : decode cX5_addShare 29 = .ok (.iadd, 1) := by decide +kernel
theorem dX5_addShare_30 : decode cX5_addShare 30 = .ok (.putfield 15, 3) := by decide +kernel
theorem dX5_addShare_33 : decode cX5_addShare 33 = .ok (.return_, 1) := by decide +kernel
theorem dX5_envies_0 : decode cX5_envies 0 = .ok (.iconst 0, 1) := by decide +kernel
theorem dX5_envies_1 : decode cX5_envies 1 = .ok (.istore_n 3, 1) := by decide +kernel
theorem dX5_envies_2 : decode cX5_envies 2 = .ok (.iload_n 3, 1) := by decide +kernel
theorem dX5_envies_3 : decode cX5_envies 3 = .ok (.iload_n 2, 1) := by decide +kernel
theorem dX5_envies_4 : decode cX5_envies 4 = .ok (.if_icmp .ge 45, 3) := by decide +kernel
theorem dX5_envies_7 : decode cX5_envies 7 = .ok (.iload_n 3, 1) := by decide +kernel
theorem dX5_envies_8 : decode cX5_envies 8 = .ok (.bipush 6, 2) := by decide +kernel
theorem dX5_envies_10 : decode cX5_envies 10 = .ok (.if_icmp .ge 39, 3) := by decide +kernel
theorem dX5_envies_13 : decode cX5_envies 13 = .ok (.aload_n 1, 1) := by decide +kernel
theorem dX5_envies_14 : decode cX5_envies 14 = .ok (.iload_n 3, 1) := by decide +kernel
theorem dX5_envies_15 : decode cX5_envies 15 = .ok (.invokevirtual 30, 3) := by decide +kernel
theorem dX5_envies_18 : decode cX5_envies 18 = .ok (.ifCond .eq 25, 3) := by decide +kernel
theorem dX5_envies_21 : decode cX5_envies 21 = .ok (.aload_n 0, 1) := by decide +kernel
theorem dX5_envies_22 : decode cX5_envies 22 = .ok (.aload_n 1, 1) := by decide +kernel
theorem dX5_envies_23 : decode cX5_envies 23 = .ok (.iload_n 2, 1) := by decide +kernel
theorem dX5_envies_24 : decode cX5_envies 24 = .ok (.iload_n 3, 1) := by decide +kernel
theorem dX5_envies_25 : decode cX5_envies 25 = .ok (.invokevirtual 47, 3) := by decide +kernel
theorem dX5_envies_28 : decode cX5_envies 28 = .ok (.ifCond .ne 13, 3) := by decide +kernel
theorem dX5_envies_31 : decode cX5_envies 31 = .ok (.aload_n 0, 1) := by decide +kernel
theorem dX5_envies_32 : decode cX5_envies 32 = .ok (.aload_n 1, 1) := by decide +kernel
theorem dX5_envies_33 : decode cX5_envies 33 = .ok (.iload_n 3, 1) := by decide +kernel
theorem dX5_envies_34 : decode cX5_envies 34 = .ok (.iload_n 2, 1) := by decide +kernel
theorem dX5_envies_35 : decode cX5_envies 35 = .ok (.invokevirtual 47, 3) := by decide +kernel
theorem dX5_envies_38 : decode cX5_envies 38 = .ok (.ifCond .eq 5, 3) := by decide +kernel
theorem dX5_envies_41 : decode cX5_envies 41 = .ok (.iconst 1, 1) := by decide +kernel
theorem dX5_envies_42 : decode cX5_envies 42 = .ok (.ireturn, 1) := by decide +kernel
theorem dX5_envies_43 : decode cX5_envies 43 = .ok (.iinc 3 1, 3) := by decide +kernel
theorem dX5_envies_46 : decode cX5_envies 46 = .ok (.goto (-44), 3) := by decide +kernel
theorem dX5_envies_49 : decode cX5_envies 49 = .ok (.iconst 0, 1) := by decide +kernel
theorem dX5_envies_50 : decode cX5_envies 50 = .ok (.ireturn, 1) := by decide +kernel
theorem dX5_wronged_0 : decode cX5_wronged 0 = .ok (.aload_n 1, 1) := by decide +kernel
theorem dX5_wronged_1 : decode cX5_wronged 1 = .ok (.iload_n 2, 1) := by decide +kernel
theorem dX5_wronged_2 : decode cX5_wronged 2 = .ok (.invokevirtual 30, 3) := by decide +kernel
theorem dX5_wronged_5 : decode cX5_wronged 5 = .ok (.ifCond .eq 45, 3) := by decide +kernel
theorem dX5_wronged_8 : decode cX5_wronged 8 = .ok (.aload_n 1, 1) := by decide +kernel
theorem dX5_wronged_9 : decode cX5_wronged 9 = .ok (.iload_n 3, 1) := by decide +kernel
theorem dX5_wronged_10 : decode cX5_wronged 10 = .ok (.invokevirtual 30, 3) := by decide +kernel
theorem dX5_wronged_13 : decode cX5_wronged 13 = .ok (.ifCond .eq 37, 3) := by decide +kernel
theorem dX5_wronged_16 : decode cX5_wronged 16 = .ok (.aload_n 1, 1) := by decide +kernel
theorem dX5_wronged_17 : decode cX5_wronged 17 = .ok (.getfield 36, 3) := by decide +kernel
theorem dX5_wronged_20 : decode cX5_wronged 20 = .ok (.iload_n 3, 1) := by decide +kernel
theorem dX5_wronged_21 : decode cX5_wronged 21 = .ok (.iaload, 1) := by decide +kernel
theorem dX5_wronged_22 : decode cX5_wronged 22 = .ok (.aload_n 1, 1) := by decide +kernel
theorem dX5_wronged_23 : decode cX5_wronged 23 = .ok (.getfield 36, 3) := by decide +kernel
theorem dX5_wronged_26 : decode cX5_wronged 26 = .ok (.iload_n 2, 1) := by decide +kernel
theorem dX5_wronged_27 : decode cX5_wronged 27 = .ok (.iaload, 1) := by decide +kernel
theorem dX5_wronged_28 : decode cX5_wronged 28 = .ok (.if_icmp .lt 22, 3) := by decide +kernel
theorem dX5_wronged_31 : decode cX5_wronged 31 = .ok (.aload_n 0, 1) := by decide +kernel
theorem dX5_wronged_32 : decode cX5_wronged 32 = .ok (.getfield 9, 3) := by decide +kernel
theorem dX5_wronged_35 : decode cX5_wronged 35 = .ok (.iload_n 2, 1) := by decide +kernel
theorem dX5_wronged_36 : decode cX5_wronged 36 = .ok (.iaload, 1) := by decide +kernel
theorem dX5_wronged_37 : decode cX5_wronged 37 = .ok (.aload_n 0, 1) := by decide +kernel
theorem dX5_wronged_38 : decode cX5_wronged 38 = .ok (.getfield 9, 3) := by decide +kernel
theorem dX5_wronged_41 : decode cX5_wronged 41 = .ok (.iload_n 3, 1) := by decide +kernel
theorem dX5_wronged_42 : decode cX5_wronged 42 = .ok (.iaload, 1) := by decide +kernel
theorem dX5_wronged_43 : decode cX5_wronged 43 = .ok (.if_icmp .le 7, 3) := by decide +kernel
theorem dX5_wronged_46 : decode cX5_wronged 46 = .ok (.iconst 1, 1) := by decide +kernel
theorem dX5_wronged_47 : decode cX5_wronged 47 = .ok (.goto 4, 3) := by decide +kernel
theorem dX5_wronged_50 : decode cX5_wronged 50 = .ok (.iconst 0, 1) := by decide +kernel
theorem dX5_wronged_51 : decode cX5_wronged 51 = .ok (.ireturn, 1) := by decide +kernel
theorem dX6_init_0 : decode cX6_init 0 = .ok (.aload_n 0, 1) := by decide +kernel
theorem dX6_init_1 : decode cX6_init 1 = .ok (.invokespecial 3, 3) := by decide +kernel
theorem dX6_init_4 : decode cX6_init 4 = .ok (.aload_n 0, 1) := by decide +kernel
theorem dX6_init_5 : decode cX6_init 5 = .ok (.bipush 8, 2) := by decide +kernel
theorem dX6_init_7 : decode cX6_init 7 = .ok (.newarray .int, 2) := by decide +kernel
theorem dX6_init_9 : decode cX6_init 9 = .ok (.putfield 11, 3) := by decide +kernel
theorem dX6_init_12 : decode cX6_init 12 = .ok (.aload_n 0, 1) := by decide +kernel
theorem dX6_init_13 : decode cX6_init 13 = .ok (.bipush 8, 2) := by decide +kernel
theorem dX6_init_15 : decode cX6_init 15 = .ok (.newarray .int, 2) := by decide +kernel
theorem dX6_init_17 : decode cX6_init 17 = .ok (.putfield 15, 3) := by decide +kernel
theorem dX6_init_20 : decode cX6_init 20 = .ok (.return_, 1) := by decide +kernel
theorem dX6_add_0 : decode cX6_add 0 = .ok (.aload_n 0, 1) := by decide +kernel
theorem dX6_add_1 : decode cX6_add 1 = .ok (.getfield 18, 3) := by decide +kernel
theorem dX6_add_4 : decode cX6_add 4 = .ok (.ifCond .lt 12, 3) := by decide +kernel
theorem dX6_add_7 : decode cX6_add 7 = .ok (.aload_n 0, 1) := by decide +kernel
theorem dX6_add_8 : decode cX6_add 8 = .ok (.getfield 18, 3) := by decide +kernel
theorem dX6_add_11 : decode cX6_add 11 = .ok (.bipush 8, 2) := by decide +kernel
theorem dX6_add_13 : decode cX6_add 13 = .ok (.if_icmp .lt 5, 3) := by decide +kernel
theorem dX6_add_16 : decode cX6_add 16 = .ok (.iconst 0, 1) := by decide +kernel
theorem dX6_add_17 : decode cX6_add 17 = .ok (.ireturn, 1) := by decide +kernel
theorem dX6_add_18 : decode cX6_add 18 = .ok (.aload_n 0, 1) := by decide +kernel
theorem dX6_add_19 : decode cX6_add 19 = .ok (.getfield 11, 3) := by decide +kernel
theorem dX6_add_22 : decode cX6_add 22 = .ok (.aload_n 0, 1) := by decide +kernel
theorem dX6_add_23 : decode cX6_add 23 = .ok (.getfield 18, 3) := by decide +kernel
theorem dX6_add_26 : decode cX6_add 26 = .ok (.iload_n 1, 1) := by decide +kernel
theorem dX6_add_27 : decode cX6_add 27 = .ok (.iastore, 1) := by decide +kernel
theorem dX6_add_28 : decode cX6_add 28 = .ok (.aload_n 0, 1) := by decide +kernel
theorem dX6_add_29 : decode cX6_add 29 = .ok (.getfield 15, 3) := by decide +kernel
theorem dX6_add_32 : decode cX6_add 32 = .ok (.aload_n 0, 1) := by decide +kernel
theorem dX6_add_33 : decode cX6_add 33 = .ok (.getfield 18, 3) := by decide +kernel
theorem dX6_add_36 : decode cX6_add 36 = .ok (.iload_n 2, 1) := by decide +kernel
theorem dX6_add_37 : decode cX6_add 37 = .ok (.iastore, 1) := by decide +kernel
theorem dX6_add_38 : decode cX6_add 38 = .ok (.aload_n 0, 1) := by decide +kernel
theorem dX6_add_39 : decode cX6_add 39 = .ok (.dup, 1) := by decide +kernel
theorem dX6_add_40 : decode cX6_add 40 = .ok (.getfield 18, 3) := by decide +kernel
theorem dX6_add_43 : decode cX6_add 43 = .ok (.iconst 1, 1) := by decide +kernel
theorem dX6_add_44 : decode cX6_add 44 = .ok (.iadd, 1) := by decide +kernel
theorem dX6_add_45 : decode cX6_add 45 = .ok (.putfield 18, 3) := by decide +kernel
theorem dX6_add_48 : decode cX6_add 48 = .ok (.iconst 1, 1) := by decide +kernel
theorem dX6_add_49 : decode cX6_add 49 = .ok (.ireturn, 1) := by decide +kernel
theorem dX6_takeOver_0 : decode cX6_takeOver 0 = .ok (.aload_n 1, 1) := by decide +kernel
theorem dX6_takeOver_1 : decode cX6_takeOver 1 = .ok (.getfield 11, 3) := by decide +kernel
theorem dX6_takeOver_4 : decode cX6_takeOver 4 = .ok (.iconst 0, 1) := by decide +kernel
theorem dX6_takeOver_5 : decode cX6_takeOver 5 = .ok (.aload_n 0, 1) := by decide +kernel
theorem dX6_takeOver_6 : decode cX6_takeOver 6 = .ok (.getfield 11, 3) := by decide +kernel
theorem dX6_takeOver_9 : decode cX6_takeOver 9 = .ok (.iconst 0, 1) := by decide +kernel
theorem dX6_takeOver_10 : decode cX6_takeOver 10 = .ok (.bipush 8, 2) := by decide +kernel
theorem dX6_takeOver_12 : decode cX6_takeOver 12 = .ok (.invokestatic 22, 3) := by decide +kernel
theorem dX6_takeOver_15 : decode cX6_takeOver 15 = .ok (.aload_n 1, 1) := by decide +kernel
theorem dX6_takeOver_16 : decode cX6_takeOver 16 = .ok (.getfield 15, 3) := by decide +kernel
theorem dX6_takeOver_19 : decode cX6_takeOver 19 = .ok (.iconst 0, 1) := by decide +kernel
theorem dX6_takeOver_20 : decode cX6_takeOver 20 = .ok (.aload_n 0, 1) := by decide +kernel
theorem dX6_takeOver_21 : decode cX6_takeOver 21 = .ok (.getfield 15, 3) := by decide +kernel
theorem dX6_takeOver_24 : decode cX6_takeOver 24 = .ok (.iconst 0, 1) := by decide +kernel
theorem dX6_takeOver_25 : decode cX6_takeOver 25 = .ok (.bipush 8, 2) := by decide +kernel
theorem dX6_takeOver_27 : decode cX6_takeOver 27 = .ok (.invokestatic 22, 3) := by decide +kernel
theorem dX6_takeOver_30 : decode cX6_takeOver 30 = .ok (.aload_n 0, 1) := by decide +kernel
theorem dX6_takeOver_31 : decode cX6_takeOver 31 = .ok (.aload_n 1, 1) := by decide +kernel
theorem dX6_takeOver_32 : decode cX6_takeOver 32 = .ok (.getfield 18, 3) := by decide +kernel
theorem dX6_takeOver_35 : decode cX6_takeOver 35 = .ok (.putfield 18, 3) := by decide +kernel
theorem dX6_takeOver_38 : decode cX6_takeOver 38 = .ok (.return_, 1) := by decide +kernel
theorem dX6_givers_0 : decode cX6_givers 0 = .ok (.iconst 0, 1) := by decide +kernel
theorem dX6_givers_1 : decode cX6_givers 1 = .ok (.istore_n 2, 1) := by decide +kernel
theorem dX6_givers_2 : decode cX6_givers 2 = .ok (.iconst 0, 1) := by decide +kernel
theorem dX6_givers_3 : decode cX6_givers 3 = .ok (.istore_n 3, 1) := by decide +kernel
theorem dX6_givers_4 : decode cX6_givers 4 = .ok (.iload_n 3, 1) := by decide +kernel
theorem dX6_givers_5 : decode cX6_givers 5 = .ok (.bipush 6, 2) := by decide +kernel
theorem dX6_givers_7 : decode cX6_givers 7 = .ok (.if_icmp .gt 38, 3) := by decide +kernel
theorem dX6_givers_10 : decode cX6_givers 10 = .ok (.iload_n 3, 1) := by decide +kernel
theorem dX6_givers_11 : decode cX6_givers 11 = .ok (.bipush 6, 2) := by decide +kernel
theorem dX6_givers_13 : decode cX6_givers 13 = .ok (.if_icmp .eq 11, 3) := by decide +kernel
theorem dX6_givers_16 : decode cX6_givers 16 = .ok (.aload_n 1, 1) := by decide +kernel
theorem dX6_givers_17 : decode cX6_givers 17 = .ok (.iload_n 3, 1) := by decide +kernel
theorem dX6_givers_18 : decode cX6_givers 18 = .ok (.invokevirtual 28, 3) := by decide +kernel
theorem dX6_givers_21 : decode cX6_givers 21 = .ok (.ifCond .eq 18, 3) := by decide +kernel
theorem dX6_givers_24 : decode cX6_givers 24 = .ok (.aload_n 0, 1) := by decide +kernel
theorem dX6_givers_25 : decode cX6_givers 25 = .ok (.aload_n 1, 1) := by decide +kernel
theorem dX6_givers_26 : decode cX6_givers 26 = .ok (.iload_n 3, 1) := by decide +kernel
theorem dX6_givers_27 : decode cX6_givers 27 = .ok (.invokevirtual 34, 3) := by decide +kernel
theorem dX6_givers_30 : decode cX6_givers 30 = .ok (.ifCond .eq 9, 3) := by decide +kernel
theorem dX6_givers_33 : decode cX6_givers 33 = .ok (.iload_n 2, 1) := by decide +kernel
theorem dX6_givers_34 : decode cX6_givers 34 = .ok (.iconst 1, 1) := by decide +kernel
theorem dX6_givers_35 : decode cX6_givers 35 = .ok (.iload_n 3, 1) := by decide +kernel
theorem dX6_givers_36 : decode cX6_givers 36 = .ok (.ishl, 1) := by decide +kernel
theorem dX6_givers_37 : decode cX6_givers 37 = .ok (.ior, 1) := by decide +kernel
theorem dX6_givers_38 : decode cX6_givers 38 = .ok (.istore_n 2, 1) := by decide +kernel
theorem dX6_givers_39 : decode cX6_givers 39 = .ok (.iinc 3 1, 3) := by decide +kernel
theorem dX6_givers_42 : decode cX6_givers 42 = .ok (.goto (-38), 3) := by decide +kernel
theorem dX6_givers_45 : decode cX6_givers 45 = .ok (.iload_n 2, 1) := by decide +kernel
theorem dX6_givers_46 : decode cX6_givers 46 = .ok (.ireturn, 1) := by decide +kernel
theorem dX6_fits_0 : decode cX6_fits 0 = .ok (.iconst 0, 1) := by decide +kernel
theorem dX6_fits_1 : decode cX6_fits 1 = .ok (.istore_n 3, 1) := by decide +kernel
theorem dX6_fits_2 : decode cX6_fits 2 = .ok (.iload_n 3, 1) := by decide +kernel
theorem dX6_fits_3 : decode cX6_fits 3 = .ok (.aload_n 0, 1) := by decide +kernel
theorem dX6_fits_4 : decode cX6_fits 4 = .ok (.getfield 18, 3) := by decide +kernel
theorem dX6_fits_7 : decode cX6_fits 7 = .ok (.if_icmp .ge 50, 3) := by decide +kernel
theorem dX6_fits_10 : decode cX6_fits 10 = .ok (.iload_n 3, 1) := by decide +kernel
theorem dX6_fits_11 : decode cX6_fits 11 = .ok (.bipush 8, 2) := by decide +kernel
theorem dX6_fits_13 : decode cX6_fits 13 = .ok (.if_icmp .ge 44, 3) := by decide +kernel
theorem dX6_fits_16 : decode cX6_fits 16 = .ok (.aload_n 1, 1) := by decide +kernel
theorem dX6_fits_17 : decode cX6_fits 17 = .ok (.aload_n 0, 1) := by decide +kernel
theorem dX6_fits_18 : decode cX6_fits 18 = .ok (.getfield 11, 3) := by decide +kernel
theorem dX6_fits_21 : decode cX6_fits 21 = .ok (.iload_n 3, 1) := by decide +kernel
theorem dX6_fits_22 : decode cX6_fits 22 = .ok (.iaload, 1) := by decide +kernel
theorem dX6_fits_23 : decode cX6_fits 23 = .ok (.invokevirtual 28, 3) := by decide +kernel
theorem dX6_fits_26 : decode cX6_fits 26 = .ok (.ifCond .eq 23, 3) := by decide +kernel
theorem dX6_fits_29 : decode cX6_fits 29 = .ok (.aload_n 1, 1) := by decide +kernel
theorem dX6_fits_30 : decode cX6_fits 30 = .ok (.iload_n 2, 1) := by decide +kernel
theorem dX6_fits_31 : decode cX6_fits 31 = .ok (.aload_n 0, 1) := by decide +kernel
theorem dX6_fits_32 : decode cX6_fits 32 = .ok (.getfield 11, 3) := by decide +kernel
theorem dX6_fits_35 : decode cX6_fits 35 = .ok (.iload_n 3, 1) := by decide +kernel
theorem dX6_fits_36 : decode cX6_fits 36 = .ok (.iaload, 1) := by decide +kernel
theorem dX6_fits_37 : decode cX6_fits 37 = .ok (.invokestatic 38, 3) := by decide +kernel
theorem dX6_fits_40 : decode cX6_fits 40 = .ok (.aload_n 0, 1) := by decide +kernel
theorem dX6_fits_41 : decode cX6_fits 41 = .ok (.getfield 15, 3) := by decide +kernel
theorem dX6_fits_44 : decode cX6_fits 44 = .ok (.iload_n 3, 1) := by decide +kernel
theorem dX6_fits_45 : decode cX6_fits 45 = .ok (.iaload, 1) := by decide +kernel
theorem dX6_fits_46 : decode cX6_fits 46 = .ok (.if_icmp .eq 5, 3) := by decide +kernel
theorem dX6_fits_49 : decode cX6_fits 49 = .ok (.iconst 0, 1) := by decide +kernel
theorem dX6_fits_50 : decode cX6_fits 50 = .ok (.ireturn, 1) := by decide +kernel
theorem dX6_fits_51 : decode cX6_fits 51 = .ok (.iinc 3 1, 3) := by decide +kernel
theorem dX6_fits_54 : decode cX6_fits 54 = .ok (.goto (-52), 3) := by decide +kernel
theorem dX6_fits_57 : decode cX6_fits 57 = .ok (.iconst 1, 1) := by decide +kernel
theorem dX6_fits_58 : decode cX6_fits 58 = .ok (.ireturn, 1) := by decide +kernel
theorem dX6_leftAtMost_0 : decode cX6_leftAtMost 0 = .ok (.iload_n 1, 1) := by decide +kernel
theorem dX6_leftAtMost_1 : decode cX6_leftAtMost 1 = .ok (.invokestatic 42, 3) := by decide +kernel
theorem dX6_leftAtMost_4 : decode cX6_leftAtMost 4 = .ok (.istore_n 3, 1) := by decide +kernel
theorem dX6_leftAtMost_5 : decode cX6_leftAtMost 5 = .ok (.aload_n 0, 1) := by decide +kernel
theorem dX6_leftAtMost_6 : decode cX6_leftAtMost 6 = .ok (.iload_n 2, 1) := by decide +kernel
theorem dX6_leftAtMost_7 : decode cX6_leftAtMost 7 = .ok (.invokevirtual 28, 3) := by decide +kernel
theorem dX6_leftAtMost_10 : decode cX6_leftAtMost 10 = .ok (.ifCond .eq 19, 3) := by decide +kernel
theorem dX6_leftAtMost_13 : decode cX6_leftAtMost 13 = .ok (.aload_n 0, 1) := by decide +kernel
theorem dX6_leftAtMost_14 : decode cX6_leftAtMost 14 = .ok (.iload_n 2, 1) := by decide +kernel
theorem dX6_leftAtMost_15 : decode cX6_leftAtMost 15 = .ok (.iload_n 2, 1) := by decide +kernel
theorem dX6_leftAtMost_16 : decode cX6_leftAtMost 16 = .ok (.invokestatic 38, 3) := by decide +kernel
theorem dX6_leftAtMost_19 : decode cX6_leftAtMost 19 = .ok (.aload_n 0, 1) := by decide +kernel
theorem dX6_leftAtMost_20 : decode cX6_leftAtMost 20 = .ok (.bipush 6, 2) := by decide +kernel
theorem dX6_leftAtMost_22 : decode cX6_leftAtMost 22 = .ok (.iload_n 2, 1) := by decide +kernel
theorem dX6_leftAtMost_23 : decode cX6_leftAtMost 23 = .ok (.invokestatic 38, 3) := by decide +kernel
theorem dX6_leftAtMost_26 : decode cX6_leftAtMost 26 = .ok (.if_icmp .ne 5, 3) := by decide +kernel
theorem dX6_leftAtMost_29 : decode cX6_leftAtMost 29 = .ok (.iload_n 3, 1) := by decide +kernel
theorem dX6_leftAtMost_30 : decode cX6_leftAtMost 30 = .ok (.ireturn, 1) := by decide +kernel
theorem dX6_leftAtMost_31 : decode cX6_leftAtMost 31 = .ok (.iload_n 1, 1) := by decide +kernel
theorem dX6_leftAtMost_32 : decode cX6_leftAtMost 32 = .ok (.iload_n 2, 1) := by decide +kernel
theorem dX6_leftAtMost_33 : decode cX6_leftAtMost 33 = .ok (.ishr, 1) := by decide +kernel
theorem dX6_leftAtMost_34 : decode cX6_leftAtMost 34 = .ok (.iconst 1, 1) := by decide +kernel
theorem dX6_leftAtMost_35 : decode cX6_leftAtMost 35 = .ok (.iand, 1) := by decide +kernel
theorem dX6_leftAtMost_36 : decode cX6_leftAtMost 36 = .ok (.istore 4, 2) := by decide +kernel
theorem dX6_leftAtMost_38 : decode cX6_leftAtMost 38 = .ok (.iload 4, 2) := by decide +kernel
theorem dX6_leftAtMost_40 : decode cX6_leftAtMost 40 = .ok (.iload_n 3, 1) := by decide +kernel
theorem dX6_leftAtMost_41 : decode cX6_leftAtMost 41 = .ok (.iload 4, 2) := by decide +kernel
theorem dX6_leftAtMost_43 : decode cX6_leftAtMost 43 = .ok (.isub, 1) := by decide +kernel
theorem dX6_leftAtMost_44 : decode cX6_leftAtMost 44 = .ok (.invokestatic 48, 3) := by decide +kernel
theorem dX6_leftAtMost_47 : decode cX6_leftAtMost 47 = .ok (.ireturn, 1) := by decide +kernel
theorem dX6_looksBehind_0 : decode cX6_looksBehind 0 = .ok (.aload_n 0, 1) := by decide +kernel
theorem dX6_looksBehind_1 : decode cX6_looksBehind 1 = .ok (.iload_n 2, 1) := by decide +kernel
theorem dX6_looksBehind_2 : decode cX6_looksBehind 2 = .ok (.invokevirtual 28, 3) := by decide +kernel
theorem dX6_looksBehind_5 : decode cX6_looksBehind 5 = .ok (.ifCond .eq 27, 3) := by decide +kernel
theorem dX6_looksBehind_8 : decode cX6_looksBehind 8 = .ok (.aload_n 0, 1) := by decide +kernel
theorem dX6_looksBehind_9 : decode cX6_looksBehind 9 = .ok (.iload_n 2, 1) := by decide +kernel
theorem dX6_looksBehind_10 : decode cX6_looksBehind 10 = .ok (.aload_n 0, 1) := by decide +kernel
theorem dX6_looksBehind_11 : decode cX6_looksBehind 11 = .ok (.getfield 54, 3) := by decide +kernel
theorem dX6_looksBehind_14 : decode cX6_looksBehind 14 = .ok (.iload_n 2, 1) := by decide +kernel
theorem dX6_looksBehind_15 : decode cX6_looksBehind 15 = .ok (.iaload, 1) := by decide +kernel
theorem dX6_looksBehind_16 : decode cX6_looksBehind 16 = .ok (.iload_n 1, 1) := by decide +kernel
theorem dX6_looksBehind_17 : decode cX6_looksBehind 17 = .ok (.iload_n 2, 1) := by decide +kernel
theorem dX6_looksBehind_18 : decode cX6_looksBehind 18 = .ok (.if_icmp .ne 7, 3) := by decide +kernel
theorem dX6_looksBehind_21 : decode cX6_looksBehind 21 = .ok (.iconst 1, 1) := by decide +kernel
theorem dX6_looksBehind_22 : decode cX6_looksBehind 22 = .ok (.goto 4, 3) := by decide +kernel
theorem dX6_looksBehind_25 : decode cX6_looksBehind 25 = .ok (.iconst 2, 1) := by decide +kernel
theorem dX6_looksBehind_26 : decode cX6_looksBehind 26 = .ok (.invokevirtual 57, 3) := by decide +kernel
theorem dX6_looksBehind_29 : decode cX6_looksBehind 29 = .ok (.goto 5, 3) := by decide +kernel
theorem dX6_looksBehind_32 : decode cX6_looksBehind 32 = .ok (.bipush (-6), 2) := by decide +kernel
theorem dX6_looksBehind_34 : decode cX6_looksBehind 34 = .ok (.ireturn, 1) := by decide +kernel
theorem dX7_weigh_0 : decode cX7_weigh 0 = .ok (.lconst 0, 1) := by decide +kernel
theorem dX7_weigh_1 : decode cX7_weigh 1 = .ok (.lstore 5, 2) := by decide +kernel
theorem dX7_weigh_3 : decode cX7_weigh 3 = .ok (.iconst 0, 1) := by decide +kernel
theorem dX7_weigh_4 : decode cX7_weigh 4 = .ok (.istore 7, 2) := by decide +kernel
theorem dX7_weigh_6 : decode cX7_weigh 6 = .ok (.iload 7, 2) := by decide +kernel
theorem dX7_weigh_8 : decode cX7_weigh 8 = .ok (.iconst 1, 1) := by decide +kernel
theorem dX7_weigh_9 : decode cX7_weigh 9 = .ok (.iload_n 2, 1) := by decide +kernel
theorem dX7_weigh_10 : decode cX7_weigh 10 = .ok (.ishl, 1) := by decide +kernel
theorem dX7_weigh_11 : decode cX7_weigh 11 = .ok (.if_icmp .ge 81, 3) := by decide +kernel
theorem dX7_weigh_14 : decode cX7_weigh 14 = .ok (.aload_n 0, 1) := by decide +kernel
theorem dX7_weigh_15 : decode cX7_weigh 15 = .ok (.iload_n 1, 1) := by decide +kernel
theorem dX7_weigh_16 : decode cX7_weigh 16 = .ok (.iload_n 2, 1) := by decide +kernel
theorem dX7_weigh_17 : decode cX7_weigh 17 = .ok (.iload 7, 2) := by decide +kernel
theorem dX7_weigh_19 : decode cX7_weigh 19 = .ok (.invokestatic 9, 3) := by decide +kernel
theorem dX7_weigh_22 : decode cX7_weigh 22 = .ok (.istore 8, 2) := by decide +kernel
theorem dX7_weigh_24 : decode cX7_weigh 24 = .ok (.iload 7, 2) := by decide +kernel
theorem dX7_weigh_26 : decode cX7_weigh 26 = .ok (.invokestatic 15, 3) := by decide +kernel
theorem dX7_weigh_29 : decode cX7_weigh 29 = .ok (.istore 9, 2) := by decide +kernel
theorem dX7_weigh_31 : decode cX7_weigh 31 = .ok (.iload_n 3, 1) := by decide +kernel
theorem dX7_weigh_32 : decode cX7_weigh 32 = .ok (.i2l, 1) := by decide +kernel
theorem dX7_weigh_33 : decode cX7_weigh 33 = .ok (.iload 9, 2) := by decide +kernel
theorem dX7_weigh_35 : decode cX7_weigh 35 = .ok (.invokestatic 21, 3) := by decide +kernel
theorem dX7_weigh_38 : decode cX7_weigh 38 = .ok (.bipush 10, 2) := by decide +kernel
theorem dX7_weigh_40 : decode cX7_weigh 40 = .ok (.iload_n 3, 1) := by decide +kernel
theorem dX7_weigh_41 : decode cX7_weigh 41 = .ok (.isub, 1) := by decide +kernel
theorem dX7_weigh_42 : decode cX7_weigh 42 = .ok (.i2l, 1) := by decide +kernel
theorem dX7_weigh_43 : decode cX7_weigh 43 = .ok (.iload_n 2, 1) := by decide +kernel
theorem dX7_weigh_44 : decode cX7_weigh 44 = .ok (.iload 9, 2) := by decide +kernel
theorem dX7_weigh_46 : decode cX7_weigh 46 = .ok (.isub, 1) := by decide +kernel
theorem dX7_weigh_47 : decode cX7_weigh 47 = .ok (.invokestatic 21, 3) := by decide +kernel
theorem dX7_weigh_50 : decode cX7_weigh 50 = .ok (.lmul, 1) := by decide +kernel
theorem dX7_weigh_51 : decode cX7_weigh 51 = .ok (.lstore 10, 2) := by decide +kernel
theorem dX7_weigh_53 : decode cX7_weigh 53 = .ok (.iload 4, 2) := by decide +kernel
theorem dX7_weigh_55 : decode cX7_weigh 55 = .ok (.ifCond .ge 17, 3) := by decide +kernel
theorem dX7_weigh_58 : decode cX7_weigh 58 = .ok (.lload 5, 2) := by decide +kernel
theorem dX7_weigh_60 : decode cX7_weigh 60 = .ok (.lload 10, 2) := by decide +kernel
theorem dX7_weigh_62 : decode cX7_weigh 62 = .ok (.iload 8, 2) := by decide +kernel
theorem dX7_weigh_64 : decode cX7_weigh 64 = .ok (.i2l, 1) := by decide +kernel
theorem dX7_weigh_65 : decode cX7_weigh 65 = .ok (.lmul, 1) := by decide +kernel
theorem dX7_weigh_66 : decode cX7_weigh 66 = .ok (.ladd, 1) := by decide +kernel
theorem dX7_weigh_67 : decode cX7_weigh 67 = .ok (.lstore 5, 2) := by decide +kernel
theorem dX7_weigh_69 : decode cX7_weigh 69 = .ok (.goto 17, 3) := by decide +kernel
theorem dX7_weigh_72 : decode cX7_weigh 72 = .ok (.iload 8, 2) := by decide +kernel
theorem dX7_weigh_74 : decode cX7_weigh 74 = .ok (.iload 4, 2) := by decide +kernel
theorem dX7_weigh_76 : decode cX7_weigh 76 = .ok (.if_icmp .gt 10, 3) := by decide +kernel
theorem dX7_weigh_79 : decode cX7_weigh 79 = .ok (.lload 5, 2) := by decide +kernel
theorem dX7_weigh_81 : decode cX7_weigh 81 = .ok (.lload 10, 2) := by decide +kernel
theorem dX7_weigh_83 : decode cX7_weigh 83 = .ok (.ladd, 1) := by decide +kernel
theorem dX7_weigh_84 : decode cX7_weigh 84 = .ok (.lstore 5, 2) := by decide +kernel
theorem dX7_weigh_86 : decode cX7_weigh 86 = .ok (.iinc 7 1, 3) := by decide +kernel
theorem dX7_weigh_89 : decode cX7_weigh 89 = .ok (.goto (-83), 3) := by decide +kernel
theorem dX7_weigh_92 : decode cX7_weigh 92 = .ok (.lload 5, 2) := by decide +kernel
theorem dX7_weigh_94 : decode cX7_weigh 94 = .ok (.lreturn, 1) := by decide +kernel
theorem dX7_looksBehind_0 : decode cX7_looksBehind 0 = .ok (.aload_n 0, 1) := by decide +kernel
theorem dX7_looksBehind_1 : decode cX7_looksBehind 1 = .ok (.iload_n 1, 1) := by decide +kernel
theorem dX7_looksBehind_2 : decode cX7_looksBehind 2 = .ok (.invokevirtual 25, 3) := by decide +kernel
theorem dX7_looksBehind_5 : decode cX7_looksBehind 5 = .ok (.ifCond .eq 12, 3) := by decide +kernel
theorem dX7_looksBehind_8 : decode cX7_looksBehind 8 = .ok (.aload_n 0, 1) := by decide +kernel
theorem dX7_looksBehind_9 : decode cX7_looksBehind 9 = .ok (.getfield 31, 3) := by decide +kernel
theorem dX7_looksBehind_12 : decode cX7_looksBehind 12 = .ok (.iload_n 1, 1) := by decide +kernel
theorem dX7_looksBehind_13 : decode cX7_looksBehind 13 = .ok (.iaload, 1) := by decide +kernel
theorem dX7_looksBehind_14 : decode cX7_looksBehind 14 = .ok (.goto 4, 3) := by decide +kernel
theorem dX7_looksBehind_17 : decode cX7_looksBehind 17 = .ok (.iconst 0, 1) := by decide +kernel
theorem dX7_looksBehind_18 : decode cX7_looksBehind 18 = .ok (.istore 4, 2) := by decide +kernel
theorem dX7_looksBehind_20 : decode cX7_looksBehind 20 = .ok (.iconst 0, 1) := by decide +kernel
theorem dX7_looksBehind_21 : decode cX7_looksBehind 21 = .ok (.istore 5, 2) := by decide +kernel
theorem dX7_looksBehind_23 : decode cX7_looksBehind 23 = .ok (.iload 5, 2) := by decide +kernel
theorem dX7_looksBehind_25 : decode cX7_looksBehind 25 = .ok (.iload_n 2, 1) := by decide +kernel
theorem dX7_looksBehind_26 : decode cX7_looksBehind 26 = .ok (.if_icmp .ge 33, 3) := by decide +kernel
theorem dX7_looksBehind_29 : decode cX7_looksBehind 29 = .ok (.aload_n 0, 1) := by decide +kernel
theorem dX7_looksBehind_30 : decode cX7_looksBehind 30 = .ok (.iload_n 1, 1) := by decide +kernel
theorem dX7_looksBehind_31 : decode cX7_looksBehind 31 = .ok (.iload 4, 2) := by decide +kernel
theorem dX7_looksBehind_33 : decode cX7_looksBehind 33 = .ok (.iload_n 3, 1) := by decide +kernel
theorem dX7_looksBehind_34 : decode cX7_looksBehind 34 = .ok (.iload 5, 2) := by decide +kernel
theorem dX7_looksBehind_36 : decode cX7_looksBehind 36 = .ok (.ishr, 1) := by decide +kernel
theorem dX7_looksBehind_37 : decode cX7_looksBehind 37 = .ok (.iconst 1, 1) := by decide +kernel
theorem dX7_looksBehind_38 : decode cX7_looksBehind 38 = .ok (.iand, 1) := by decide +kernel
theorem dX7_looksBehind_39 : decode cX7_looksBehind 39 = .ok (.iconst 1, 1) := by decide +kernel
theorem dX7_looksBehind_40 : decode cX7_looksBehind 40 = .ok (.if_icmp .ne 7, 3) := by decide +kernel
theorem dX7_looksBehind_43 : decode cX7_looksBehind 43 = .ok (.iconst 0, 1) := by decide +kernel
theorem dX7_looksBehind_44 : decode cX7_looksBehind 44 = .ok (.goto 4, 3) := by decide +kernel
theorem dX7_looksBehind_47 : decode cX7_looksBehind 47 = .ok (.iconst 2, 1) := by decide +kernel
theorem dX7_looksBehind_48 : decode cX7_looksBehind 48 = .ok (.invokevirtual 35, 3) := by decide +kernel
theorem dX7_looksBehind_51 : decode cX7_looksBehind 51 = .ok (.istore 4, 2) := by decide +kernel
theorem dX7_looksBehind_53 : decode cX7_looksBehind 53 = .ok (.iinc 5 1, 3) := by decide +kernel
theorem dX7_looksBehind_56 : decode cX7_looksBehind 56 = .ok (.goto (-33), 3) := by decide +kernel
theorem dX7_looksBehind_59 : decode cX7_looksBehind 59 = .ok (.iload 4, 2) := by decide +kernel
theorem dX7_looksBehind_61 : decode cX7_looksBehind 61 = .ok (.ireturn, 1) := by decide +kernel
theorem dX7_power_0 : decode cX7_power 0 = .ok (.lconst 1, 1) := by decide +kernel
theorem dX7_power_1 : decode cX7_power 1 = .ok (.lstore_n 3, 1) := by decide +kernel
theorem dX7_power_2 : decode cX7_power 2 = .ok (.iconst 0, 1) := by decide +kernel
theorem dX7_power_3 : decode cX7_power 3 = .ok (.istore 5, 2) := by decide +kernel
theorem dX7_power_5 : decode cX7_power 5 = .ok (.iload 5, 2) := by decide +kernel
theorem dX7_power_7 : decode cX7_power 7 = .ok (.iload_n 2, 1) := by decide +kernel
theorem dX7_power_8 : decode cX7_power 8 = .ok (.if_icmp .ge 13, 3) := by decide +kernel
theorem dX7_power_11 : decode cX7_power 11 = .ok (.lload_n 3, 1) := by decide +kernel
theorem dX7_power_12 : decode cX7_power 12 = .ok (.lload_n 0, 1) := by decide +kernel
theorem dX7_power_13 : decode cX7_power 13 = .ok (.lmul, 1) := by decide +kernel
theorem dX7_power_14 : decode cX7_power 14 = .ok (.lstore_n 3, 1) := by decide +kernel
theorem dX7_power_15 : decode cX7_power 15 = .ok (.iinc 5 1, 3) := by decide +kernel
theorem dX7_power_18 : decode cX7_power 18 = .ok (.goto (-13), 3) := by decide +kernel
theorem dX7_power_21 : decode cX7_power 21 = .ok (.lload_n 3, 1) := by decide +kernel
theorem dX7_power_22 : decode cX7_power 22 = .ok (.lreturn, 1) := by decide +kernel
theorem dX7_commonDivisor_0 : decode cX7_commonDivisor 0 = .ok (.iconst 0, 1) := by decide +kernel
theorem dX7_commonDivisor_1 : decode cX7_commonDivisor 1 = .ok (.istore 4, 2) := by decide +kernel
theorem dX7_commonDivisor_3 : decode cX7_commonDivisor 3 = .ok (.iload 4, 2) := by decide +kernel
theorem dX7_commonDivisor_5 : decode cX7_commonDivisor 5 = .ok (.sipush 200, 3) := by decide +kernel
theorem dX7_commonDivisor_8 : decode cX7_commonDivisor 8 = .ok (.if_icmp .ge 25, 3) := by decide +kernel
theorem dX7_commonDivisor_11 : decode cX7_commonDivisor 11 = .ok (.lload_n 2, 1) := by decide +kernel
theorem dX7_commonDivisor_12 : decode cX7_commonDivisor 12 = .ok (.lconst 0, 1) := by decide +kernel
theorem dX7_commonDivisor_13 : decode cX7_commonDivisor 13 = .ok (.lcmp, 1) := by decide +kernel
theorem dX7_commonDivisor_14 : decode cX7_commonDivisor 14 = .ok (.ifCond .eq 19, 3) := by decide +kernel
theorem dX7_commonDivisor_17 : decode cX7_commonDivisor 17 = .ok (.lload_n 0, 1) := by decide +kernel
theorem dX7_commonDivisor_18 : decode cX7_commonDivisor 18 = .ok (.lload_n 2, 1) := by decide +kernel
theorem dX7_commonDivisor_19 : decode cX7_commonDivisor 19 = .ok (.lrem, 1) := by decide +kernel
theorem dX7_commonDivisor_20 : decode cX7_commonDivisor 20 = .ok (.lstore 5, 2) := by decide +kernel
theorem dX7_commonDivisor_22 : decode cX7_commonDivisor 22 = .ok (.lload_n 2, 1) := by decide +kernel
theorem dX7_commonDivisor_23 : decode cX7_commonDivisor 23 = .ok (.lstore_n 0, 1) := by decide +kernel
theorem dX7_commonDivisor_24 : decode cX7_commonDivisor 24 = .ok (.lload 5, 2) := by decide +kernel
theorem dX7_commonDivisor_26 : decode cX7_commonDivisor 26 = .ok (.lstore_n 2, 1) := by decide +kernel
theorem dX7_commonDivisor_27 : decode cX7_commonDivisor 27 = .ok (.iinc 4 1, 3) := by decide +kernel
theorem dX7_commonDivisor_30 : decode cX7_commonDivisor 30 = .ok (.goto (-27), 3) := by decide +kernel
theorem dX7_commonDivisor_33 : decode cX7_commonDivisor 33 = .ok (.lconst 1, 1) := by decide +kernel
theorem dX7_commonDivisor_34 : decode cX7_commonDivisor 34 = .ok (.lload_n 0, 1) := by decide +kernel
theorem dX7_commonDivisor_35 : decode cX7_commonDivisor 35 = .ok (.invokestatic 39, 3) := by decide +kernel
theorem dX7_commonDivisor_38 : decode cX7_commonDivisor 38 = .ok (.lreturn, 1) := by decide +kernel
theorem b_X5_weigh_0 {l : Launch} {z d : Nat} {X : jX} {M : Nat → Int → Int} {Q : Option jV → jM → Prop} {x2 : Int}   (k1 : J l z X (d + 3) mX5_share (0, 0) 0 [jR 66, jR 1, jI 0, jI x2, jI 0, jN] [] (jG, (jupd (jupd M 66 1 0) 66 2 (-6))) (fun r μ => J l z X (d + 4) mX5_weigh (0, 0) 19 [jR 66, jR 1, jI x2] (r.toList ++ []) μ Q)) : J l z X (d + 4) mX5_weigh (0, 0) 0 [jR 66, jR 1, jI x2] [] (jG, M) Q :=
  (J_aload_n dX5_weigh_0 rfl (J_iconst dX5_weigh_1 jc_0 (J_putI (k := 1) (kz := 1) jcl_X5 dX5_weigh_2 wf_X5_15 g_66 (Nat.le_of_ble_eq_true rfl) rfl rfl rfl (J_aload_n dX5_weigh_5 rfl (J_bipush dX5_weigh_6 jc_m6 jb_m6 (J_putI (k := 2) (kz := 2) jcl_X5 dX5_weigh_8 wf_X5_19 g_66 (Nat.le_of_ble_eq_true rfl) rfl rfl rfl (J_aload_n dX5_weigh_11 rfl (J_aload_n dX5_weigh_12 rfl (J_iconst dX5_weigh_13 jc_0 (J_iload_n dX5_weigh_14 rfl (J_iconst dX5_weigh_15 jc_0 (J_callV (a1 := (0, 0)) (a2 := (0, 0)) (mm' := mX5_share) (S := []) [jR 1, jI 0, jI x2, jI 0] md_X5_share im_X5_share se_X5_share dX5_weigh_16 wm_X5_22 jcl_X5.1 rfl g_66 rfl rfl (Nat.le_of_ble_eq_true rfl) (Nat.le_of_ble_eq_true rfl) rfl k1))))))))))))
theorem b_X5_weigh_19 {l : Launch} {z d : Nat} {X : jX} {M : Nat → Int → Int} {Q : Option jV → jM → Prop} {x2 : Int}   (k1 : Q none (jG, M)) : J l z X (d + 4) mX5_weigh (0, 0) 19 [jR 66, jR 1, jI x2] [] (jG, M) Q :=
  (J_vret dX5_weigh_19 rfl k1)
theorem b_X5_share_0 {l : Launch} {z d : Nat} {X : jX} {M : Nat → Int → Int} {Q : Option jV → jM → Prop} {x2 : Int} {x3 : Int} {x4 : Int}  (s1 : 0 ≤ x2 → x2 < 6 → hasB (M 1 4) x2 = false → jIn (x2 + 1)) (s2 : 0 ≤ x2 → x2 < 6 → hasB (M 1 4) x2 = false → jIn (x4 * 10)) (s3 : 0 ≤ x2 → x2 < 6 → hasB (M 1 4) x2 = false → jIn ((x4 * 10) + 3)) (k1 : x2 < 0 → J l z X (d + 3) mX5_share (0, 0) 10 [jR 66, jR 1, jI x2, jI x3, jI x4, jN] [] (jG, M) Q) (k2 : 0 ≤ x2 → x2 < 6 → hasB (M 1 4) x2 = true → J l z X (d + 3) mX5_share (0, 0) 50 [jR 66, jR 1, jI x2, jI x3, jI x4, jI 0] [] (jG, M) Q) (k3 : 0 ≤ x2 → x2 < 6 → hasB (M 1 4) x2 = false → J l z X (d + 2) mX5_share (0, 0) 0 [jR 66, jR 1, jI (x2 + 1), jI x3, jI ((x4 * 10) + 3), jN] [] (jG, M) (fun r μ => J l z X (d + 3) mX5_share (0, 0) 44 [jR 66, jR 1, jI x2, jI x3, jI x4, jN] (r.toList ++ []) μ Q)) (k4 : 0 ≤ x2 → 6 ≤ x2 → J l z X (d + 3) mX5_share (0, 0) 10 [jR 66, jR 1, jI x2, jI x3, jI x4, jN] [] (jG, M) Q) : J l z X (d + 3) mX5_share (0, 0) 0 [jR 66, jR 1, jI x2, jI x3, jI x4, jN] [] (jG, M) Q :=
  (J_iload_n dX5_share_0 rfl (J_if_lt dX5_share_1 (tgt := 10) (by decide) (fun c1 => (k1 c1)) (fun c1 => (J_iload_n dX5_share_4 rfl (J_bipush dX5_share_5 jc_6 jb_6 (J_icmp_lt dX5_share_7 (tgt := 20) (by decide) (fun c2 => (J_aload_n dX5_share_20 rfl (J_iload_n dX5_share_21 rfl (J_callV (a1 := (0, 0)) (a2 := (0, 0)) (mm' := mX1_has) (S := []) [jI x2] md_X1_has im_X1_has se_X1_has dX5_share_22 wm_X5_30 jcl_X1.1 rfl g_1 rfl rfl (Nat.le_of_ble_eq_true rfl) (Nat.le_of_ble_eq_true rfl) rfl (c_X1_has hi_1  (fun c3 => (J_if_ne dX5_share_25 (tgt := 47) (by decide) (fun _ => (J_iconst dX5_share_47 jc_0 (J_istore dX5_share_48 (Nat.le_of_ble_eq_true rfl) (k2 c1 c2 c3)))) (fun c => absurd c (by decide)))) (fun c3 => (J_if_ne dX5_share_25 (tgt := 47) (by decide) (fun c => absurd c (by decide)) (fun _ => (J_aload_n dX5_share_28 rfl (J_aload_n dX5_share_29 rfl (J_iload_n dX5_share_30 rfl (J_iconst dX5_share_31 jc_1 (J_iadd dX5_share_32 (s1 c1 c2 c3) (J_iload_n dX5_share_33 rfl (J_iload dX5_share_34 rfl (J_bipush dX5_share_36 jc_10 jb_10 (J_imul dX5_share_38 (s2 c1 c2 c3) (J_iconst dX5_share_39 jc_3 (J_iadd dX5_share_40 (s3 c1 c2 c3) (J_callV (a1 := (0, 0)) (a2 := (0, 0)) (mm' := mX5_share) (S := []) [jR 1, jI (x2 + 1), jI x3, jI ((x4 * 10) + 3)] md_X5_share im_X5_share se_X5_share dX5_share_41 wm_X5_22 jcl_X5.1 rfl g_66 rfl rfl (Nat.le_of_ble_eq_true rfl) (Nat.le_of_ble_eq_true rfl) rfl (k3 c1 c2 c3))))))))))))))))))))) (fun c2 => (k4 c1 c2))))))))
theorem b_X5_share_10 {l : Launch} {z d : Nat} {X : jX} {M : Nat → Int → Int} {Q : Option jV → jM → Prop} {x2 : Int} {x3 : Int} {x4 : Int}   (k1 : J l z X (d + 2) mX5_addShare (0, 0) 0 [jR 66, jI x3, jI x4] [] (jG, M) (fun r μ => J l z X (d + 3) mX5_share (0, 0) 17 [jR 66, jR 1, jI x2, jI x3, jI x4, jN] (r.toList ++ []) μ Q)) : J l z X (d + 3) mX5_share (0, 0) 10 [jR 66, jR 1, jI x2, jI x3, jI x4, jN] [] (jG, M) Q :=
  (J_aload_n dX5_share_10 rfl (J_iload_n dX5_share_11 rfl (J_iload dX5_share_12 rfl (J_callV (a1 := (0, 0)) (a2 := (0, 0)) (mm' := mX5_addShare) (S := []) [jI x3, jI x4] md_X5_addShare im_X5_addShare se_X5_addShare dX5_share_14 wm_X5_26 jcl_X5.1 rfl g_66 rfl rfl (Nat.le_of_ble_eq_true rfl) (Nat.le_of_ble_eq_true rfl) rfl k1))))
theorem b_X5_share_17 {l : Launch} {z d : Nat} {X : jX} {M : Nat → Int → Int} {Q : Option jV → jM → Prop} {x2 : Int} {x3 : Int} {x4 : Int}   (k1 : Q none (jG, M)) : J l z X (d + 3) mX5_share (0, 0) 17 [jR 66, jR 1, jI x2, jI x3, jI x4, jN] [] (jG, M) Q :=
  (J_goto dX5_share_17 (tgt := 116) (by decide) (J_vret dX5_share_116 rfl k1))
theorem b_X5_share_44 {l : Launch} {z d : Nat} {X : jX} {M : Nat → Int → Int} {Q : Option jV → jM → Prop} {x2 : Int} {x3 : Int} {x4 : Int}   (k1 : Q none (jG, M)) : J l z X (d + 3) mX5_share (0, 0) 44 [jR 66, jR 1, jI x2, jI x3, jI x4, jN] [] (jG, M) Q :=
  (J_goto dX5_share_44 (tgt := 116) (by decide) (J_vret dX5_share_116 rfl k1))
theorem b_X5_share_50 {l : Launch} {z d : Nat} {X : jX} {M : Nat → Int → Int} {Q : Option jV → jM → Prop} {x2 : Int} {x3 : Int} {x4 : Int} {x5 : Int}  (s1 : x5 ≤ 2 → x5 ≤ x3 → 0 ≤ x2) (s2 : x5 ≤ 2 → x5 ≤ x3 → x2 < 6) (s3 : x5 ≤ 2 → x5 ≤ x3 → hasB (M 1 4) x2 = true → (-1000 ≤ (M 2 x2) ∧ (M 2 x2) ≤ 1000) ∧ (0 ≤ (M 3 x2) ∧ (M 3 x2) ≤ 9)) (k1 : 2 < x5 → Q none (jG, M)) (k2 : x5 ≤ 2 → x3 < x5 → Q none (jG, M)) (k3 : x5 ≤ 2 → x5 ≤ x3 → J l z X (d + 2) mX5_envies (0, 0) 0 [jR 66, jR 1, jI x2, jN] [] (jG, (jupd M 67 x2 (agH (hasB (M 1 4) x2) (M 3 x2) (M 4 x2) (M 2 x2) x5))) (fun r μ => J l z X (d + 3) mX5_share (0, 0) 87 [jR 66, jR 1, jI x2, jI x3, jI x4, jI x5] (r.toList ++ []) μ Q)) : J l z X (d + 3) mX5_share (0, 0) 50 [jR 66, jR 1, jI x2, jI x3, jI x4, jI x5] [] (jG, M) Q :=
  (J_iload dX5_share_50 rfl (J_iconst dX5_share_52 jc_2 (J_icmp_gt dX5_share_53 (tgt := 116) (by decide) (fun c1 => (J_vret dX5_share_116 rfl (k1 c1))) (fun c1 => (J_iload dX5_share_56 rfl (J_iload_n dX5_share_58 rfl (J_icmp_gt dX5_share_59 (tgt := 116) (by decide) (fun c2 => (J_vret dX5_share_116 rfl (k2 c1 c2))) (fun c2 => (J_aload_n dX5_share_62 rfl (J_getR (k := 0) jcl_X5 dX5_share_63 wf_X5_9 g_66 (Nat.le_of_ble_eq_true rfl) rfl rfl (J_iload_n dX5_share_66 rfl (J_aload_n dX5_share_67 rfl (J_iload_n dX5_share_68 rfl (J_aload_n dX5_share_69 rfl (J_getRN (k := 0) jcl_X1 dX5_share_70 wf_X5_36 g_1 (Nat.le_of_ble_eq_true rfl) rfl rfl (J_iload_n dX5_share_73 rfl (J_iald dX5_share_74 g_2 (s1 c1 c2) (s2 c1 c2) (J_iload dX5_share_75 rfl (J_callV (a1 := (0, 0)) (a2 := (0, 0)) (mm' := mX1_aged) (S := [jI x2, jR 67]) [jI x2, jI (M 2 x2), jI x5] md_X1_aged im_X1_aged se_X1_aged dX5_share_77 wm_X5_39 jcl_X1.1 rfl g_1 rfl rfl (Nat.le_of_ble_eq_true rfl) (Nat.le_of_ble_eq_true rfl) rfl (c_X1_aged hi_1 (s3 c1 c2) (J_iast dX5_share_80 g_67 (s1 c1 c2) (s2 c1 c2) (J_aload_n dX5_share_81 rfl (J_aload_n dX5_share_82 rfl (J_iload_n dX5_share_83 rfl (J_callV (a1 := (0, 0)) (a2 := (0, 0)) (mm' := mX5_envies) (S := []) [jR 1, jI x2] md_X5_envies im_X5_envies se_X5_envies dX5_share_84 wm_X5_43 jcl_X5.1 rfl g_66 rfl rfl (Nat.le_of_ble_eq_true rfl) (Nat.le_of_ble_eq_true rfl) rfl (k3 c1 c2))))))))))))))))))))))))))
theorem b_X5_share_87 {l : Launch} {z d : Nat} {X : jX} {M : Nat → Int → Int} {Q : Option jV → jM → Prop} {x2 : Int} {x3 : Int} {x4 : Int} {x5 : Int} {t0 : Int}  (s1 : t0 = 0 → jIn (x2 + 1)) (s2 : t0 = 0 → jIn (x3 - x5)) (s3 : t0 = 0 → jIn (x4 * 10)) (s4 : t0 = 0 → jIn ((x4 * 10) + x5)) (k1 : t0 ≠ 0 → J l z X (d + 3) mX5_share (0, 0) 110 [jR 66, jR 1, jI x2, jI x3, jI x4, jI x5] [] (jG, M) Q) (k2 : t0 = 0 → J l z X (d + 2) mX5_share (0, 0) 0 [jR 66, jR 1, jI (x2 + 1), jI (x3 - x5), jI ((x4 * 10) + x5), jN] [] (jG, M) (fun r μ => J l z X (d + 3) mX5_share (0, 0) 110 [jR 66, jR 1, jI x2, jI x3, jI x4, jI x5] (r.toList ++ []) μ Q)) : J l z X (d + 3) mX5_share (0, 0) 87 [jR 66, jR 1, jI x2, jI x3, jI x4, jI x5] [jI t0] (jG, M) Q :=
  (J_if_ne dX5_share_87 (tgt := 110) (by decide) (fun c1 => (k1 c1)) (fun c1 => (J_aload_n dX5_share_90 rfl (J_aload_n dX5_share_91 rfl (J_iload_n dX5_share_92 rfl (J_iconst dX5_share_93 jc_1 (J_iadd dX5_share_94 (s1 c1) (J_iload_n dX5_share_95 rfl (J_iload dX5_share_96 rfl (J_isub dX5_share_98 (s2 c1) (J_iload dX5_share_99 rfl (J_bipush dX5_share_101 jc_10 jb_10 (J_imul dX5_share_103 (s3 c1) (J_iload dX5_share_104 rfl (J_iadd dX5_share_106 (s4 c1) (J_callV (a1 := (0, 0)) (a2 := (0, 0)) (mm' := mX5_share) (S := []) [jR 1, jI (x2 + 1), jI (x3 - x5), jI ((x4 * 10) + x5)] md_X5_share im_X5_share se_X5_share dX5_share_107 wm_X5_22 jcl_X5.1 rfl g_66 rfl rfl (Nat.le_of_ble_eq_true rfl) (Nat.le_of_ble_eq_true rfl) rfl (k2 c1)))))))))))))))))
theorem b_X5_share_110 {l : Launch} {z d : Nat} {X : jX} {M : Nat → Int → Int} {Q : Option jV → jM → Prop} {x2 : Int} {x3 : Int} {x4 : Int} {x5 : Int}  (s1 : jIn (x5 + 1)) (k1 : J l z X (d + 3) mX5_share (0, 0) 50 [jR 66, jR 1, jI x2, jI x3, jI x4, jI (x5 + 1)] [] (jG, M) Q) : J l z X (d + 3) mX5_share (0, 0) 110 [jR 66, jR 1, jI x2, jI x3, jI x4, jI x5] [] (jG, M) Q :=
  (J_iinc dX5_share_110 rfl jc_1 s1 (J_goto dX5_share_113 (tgt := 50) (by decide) k1))
theorem b_X5_addShare_0 {l : Launch} {z d : Nat} {X : jX} {M : Nat → Int → Int} {Q : Option jV → jM → Prop} {x1 : Int} {x2 : Int}   (k1 : x1 ≠ 0 → Q none (jG, M)) (k2 : x1 = 0 → (M 66 1) ≠ 0 → J l z X d mX5_addShare (0, 0) 20 [jR 66, jI x1, jI x2] [jI (M 66 2), jR 66] (jG, M) Q) (k3 : x1 = 0 → (M 66 1) = 0 → J l z X d mX5_addShare (0, 0) 20 [jR 66, jI x1, jI x2] [jI x2, jR 66] (jG, M) Q) : J l z X d mX5_addShare (0, 0) 0 [jR 66, jI x1, jI x2] [] (jG, M) Q :=
  (J_iload_n dX5_addShare_0 rfl (J_if_ne dX5_addShare_1 (tgt := 33) (by decide) (fun c1 => (J_vret dX5_addShare_33 rfl (k1 c1))) (fun c1 => (J_aload_n dX5_addShare_4 rfl (J_aload_n dX5_addShare_5 rfl (J_getI (k := 1) (kz := 1) jcl_X5 dX5_addShare_6 wf_X5_15 g_66 (Nat.le_of_ble_eq_true rfl) rfl rfl (J_if_ne dX5_addShare_9 (tgt := 16) (by decide) (fun c2 => (J_aload_n dX5_addShare_16 rfl (J_getI (k := 2) (kz := 2) jcl_X5 dX5_addShare_17 wf_X5_19 g_66 (Nat.le_of_ble_eq_true rfl) rfl rfl (k2 c1 c2)))) (fun c2 => (J_iload_n dX5_addShare_12 rfl (J_goto dX5_addShare_13 (tgt := 20) (by decide) (k3 c1 c2)))))))))))
theorem b_X5_addShare_20 {l : Launch} {z d : Nat} {X : jX} {M : Nat → Int → Int} {Q : Option jV → jM → Prop} {x1 : Int} {x2 : Int} {t1 : Int}  (s1 : jIn (((jupd M 66 2 t1) 66 1) + 1)) (k1 : Q none (jG, (jupd (jupd M 66 2 t1) 66 1 (((jupd M 66 2 t1) 66 1) + 1)))) : J l z X d mX5_addShare (0, 0) 20 [jR 66, jI x1, jI x2] [jI t1, jR 66] (jG, M) Q :=
  (J_putI (k := 2) (kz := 2) jcl_X5 dX5_addShare_20 wf_X5_19 g_66 (Nat.le_of_ble_eq_true rfl) rfl rfl rfl (J_aload_n dX5_addShare_23 rfl (J_dupR dX5_addShare_24 (J_getI (k := 1) (kz := 1) jcl_X5 dX5_addShare_25 wf_X5_15 g_66 (Nat.le_of_ble_eq_true rfl) rfl rfl (J_iconst dX5_addShare_28 jc_1 (J_iadd dX5_addShare_29 s1 (J_putI (k := 1) (kz := 1) jcl_X5 dX5_addShare_30 wf_X5_15 g_66 (Nat.le_of_ble_eq_true rfl) rfl rfl rfl (J_vret dX5_addShare_33 rfl k1))))))))
theorem b_X5_envies_0 {l : Launch} {z d : Nat} {X : jX} {M : Nat → Int → Int} {Q : Option jV → jM → Prop} {x2 : Int}   (k1 : J l z X (d + 2) mX5_envies (0, 0) 2 [jR 66, jR 1, jI x2, jI 0] [] (jG, M) Q) : J l z X (d + 2) mX5_envies (0, 0) 0 [jR 66, jR 1, jI x2, jN] [] (jG, M) Q :=
  (J_iconst dX5_envies_0 jc_0 (J_istore_n dX5_envies_1 (Nat.le_of_ble_eq_true rfl) k1))
theorem b_X5_envies_2 {l : Launch} {z d : Nat} {X : jX} {M : Nat → Int → Int} {Q : Option jV → jM → Prop} {x2 : Int} {x3 : Int}   (k1 : x2 ≤ x3 → Q (some (jI 0)) (jG, M)) (k2 : x3 < x2 → 6 ≤ x3 → Q (some (jI 0)) (jG, M)) (k3 : x3 < x2 → x3 < 6 → hasB (M 1 4) x3 = true → J l z X (d + 1) mX5_wronged (0, 0) 0 [jR 66, jR 1, jI x2, jI x3] [] (jG, M) (fun r μ => J l z X (d + 2) mX5_envies (0, 0) 28 [jR 66, jR 1, jI x2, jI x3] (r.toList ++ []) μ Q)) (k4 : x3 < x2 → x3 < 6 → hasB (M 1 4) x3 = false → J l z X (d + 2) mX5_envies (0, 0) 43 [jR 66, jR 1, jI x2, jI x3] [] (jG, M) Q) : J l z X (d + 2) mX5_envies (0, 0) 2 [jR 66, jR 1, jI x2, jI x3] [] (jG, M) Q :=
  (J_iload_n dX5_envies_2 rfl (J_iload_n dX5_envies_3 rfl (J_icmp_ge dX5_envies_4 (tgt := 49) (by decide) (fun c1 => (J_iconst dX5_envies_49 jc_0 (J_zret dX5_envies_50 rfl (Or.inl rfl) (k1 c1)))) (fun c1 => (J_iload_n dX5_envies_7 rfl (J_bipush dX5_envies_8 jc_6 jb_6 (J_icmp_ge dX5_envies_10 (tgt := 49) (by decide) (fun c2 => (J_iconst dX5_envies_49 jc_0 (J_zret dX5_envies_50 rfl (Or.inl rfl) (k2 c1 c2)))) (fun c2 => (J_aload_n dX5_envies_13 rfl (J_iload_n dX5_envies_14 rfl (J_callV (a1 := (0, 0)) (a2 := (0, 0)) (mm' := mX1_has) (S := []) [jI x3] md_X1_has im_X1_has se_X1_has dX5_envies_15 wm_X5_30 jcl_X1.1 rfl g_1 rfl rfl (Nat.le_of_ble_eq_true rfl) (Nat.le_of_ble_eq_true rfl) rfl (c_X1_has hi_1  (fun c3 => (J_if_eq dX5_envies_18 (tgt := 43) (by decide) (fun c => absurd c (by decide)) (fun _ => (J_aload_n dX5_envies_21 rfl (J_aload_n dX5_envies_22 rfl (J_iload_n dX5_envies_23 rfl (J_iload_n dX5_envies_24 rfl (J_callV (a1 := (0, 0)) (a2 := (0, 0)) (mm' := mX5_wronged) (S := []) [jR 1, jI x2, jI x3] md_X5_wronged im_X5_wronged se_X5_wronged dX5_envies_25 wm_X5_47 jcl_X5.1 rfl g_66 rfl rfl (Nat.le_of_ble_eq_true rfl) (Nat.le_of_ble_eq_true rfl) rfl (k3 c1 c2 c3))))))))) (fun c3 => (J_if_eq dX5_envies_18 (tgt := 43) (by decide) (fun _ => (k4 c1 c2 c3)) (fun c => absurd c (by decide))))))))))))))))
theorem b_X5_envies_28 {l : Launch} {z d : Nat} {X : jX} {M : Nat → Int → Int} {Q : Option jV → jM → Prop} {x2 : Int} {x3 : Int} {t0 : Int}   (k1 : t0 ≠ 0 → Q (some (jI 1)) (jG, M)) (k2 : t0 = 0 → J l z X (d + 1) mX5_wronged (0, 0) 0 [jR 66, jR 1, jI x3, jI x2] [] (jG, M) (fun r μ => J l z X (d + 2) mX5_envies (0, 0) 38 [jR 66, jR 1, jI x2, jI x3] (r.toList ++ []) μ Q)) : J l z X (d + 2) mX5_envies (0, 0) 28 [jR 66, jR 1, jI x2, jI x3] [jI t0] (jG, M) Q :=
  (J_if_ne dX5_envies_28 (tgt := 41) (by decide) (fun c1 => (J_iconst dX5_envies_41 jc_1 (J_zret dX5_envies_42 rfl (Or.inr rfl) (k1 c1)))) (fun c1 => (J_aload_n dX5_envies_31 rfl (J_aload_n dX5_envies_32 rfl (J_iload_n dX5_envies_33 rfl (J_iload_n dX5_envies_34 rfl (J_callV (a1 := (0, 0)) (a2 := (0, 0)) (mm' := mX5_wronged) (S := []) [jR 1, jI x3, jI x2] md_X5_wronged im_X5_wronged se_X5_wronged dX5_envies_35 wm_X5_47 jcl_X5.1 rfl g_66 rfl rfl (Nat.le_of_ble_eq_true rfl) (Nat.le_of_ble_eq_true rfl) rfl (k2 c1))))))))
theorem b_X5_envies_38 {l : Launch} {z d : Nat} {X : jX} {M : Nat → Int → Int} {Q : Option jV → jM → Prop} {x2 : Int} {x3 : Int} {t0 : Int}   (k1 : t0 = 0 → J l z X (d + 2) mX5_envies (0, 0) 43 [jR 66, jR 1, jI x2, jI x3] [] (jG, M) Q) (k2 : t0 ≠ 0 → Q (some (jI 1)) (jG, M)) : J l z X (d + 2) mX5_envies (0, 0) 38 [jR 66, jR 1, jI x2, jI x3] [jI t0] (jG, M) Q :=
  (J_if_eq dX5_envies_38 (tgt := 43) (by decide) (fun c1 => (k1 c1)) (fun c1 => (J_iconst dX5_envies_41 jc_1 (J_zret dX5_envies_42 rfl (Or.inr rfl) (k2 c1)))))
theorem b_X5_envies_43 {l : Launch} {z d : Nat} {X : jX} {M : Nat → Int → Int} {Q : Option jV → jM → Prop} {x2 : Int} {x3 : Int}  (s1 : jIn (x3 + 1)) (k1 : J l z X (d + 2) mX5_envies (0, 0) 2 [jR 66, jR 1, jI x2, jI (x3 + 1)] [] (jG, M) Q) : J l z X (d + 2) mX5_envies (0, 0) 43 [jR 66, jR 1, jI x2, jI x3] [] (jG, M) Q :=
  (J_iinc dX5_envies_43 rfl jc_1 s1 (J_goto dX5_envies_46 (tgt := 2) (by decide) k1))
theorem b_X5_wronged_0 {l : Launch} {z d : Nat} {X : jX} {M : Nat → Int → Int} {Q : Option jV → jM → Prop} {x2 : Int} {x3 : Int}  (s1 : hasB (M 1 4) x2 = true → hasB (M 1 4) x3 = true → 0 ≤ x3) (s2 : hasB (M 1 4) x2 = true → hasB (M 1 4) x3 = true → x3 < 6) (s3 : hasB (M 1 4) x2 = true → hasB (M 1 4) x3 = true → 0 ≤ x2) (s4 : hasB (M 1 4) x2 = true → hasB (M 1 4) x3 = true → x2 < 6) (s5 : hasB (M 1 4) x2 = true → hasB (M 1 4) x3 = true → (M 2 x2) ≤ (M 2 x3) → 0 ≤ x2) (s6 : hasB (M 1 4) x2 = true → hasB (M 1 4) x3 = true → (M 2 x2) ≤ (M 2 x3) → x2 < 6) (s7 : hasB (M 1 4) x2 = true → hasB (M 1 4) x3 = true → (M 2 x2) ≤ (M 2 x3) → 0 ≤ x3) (s8 : hasB (M 1 4) x2 = true → hasB (M 1 4) x3 = true → (M 2 x2) ≤ (M 2 x3) → x3 < 6) (k1 : hasB (M 1 4) x2 = true → hasB (M 1 4) x3 = true → (M 2 x3) < (M 2 x2) → Q (some (jI 0)) (jG, M)) (k2 : hasB (M 1 4) x2 = true → hasB (M 1 4) x3 = true → (M 2 x2) ≤ (M 2 x3) → (M 67 x2) ≤ (M 67 x3) → Q (some (jI 0)) (jG, M)) (k3 : hasB (M 1 4) x2 = true → hasB (M 1 4) x3 = true → (M 2 x2) ≤ (M 2 x3) → (M 67 x3) < (M 67 x2) → Q (some (jI 1)) (jG, M)) (k4 : hasB (M 1 4) x2 = true → hasB (M 1 4) x3 = false → Q (some (jI 0)) (jG, M)) (k5 : hasB (M 1 4) x2 = false → Q (some (jI 0)) (jG, M)) : J l z X (d + 1) mX5_wronged (0, 0) 0 [jR 66, jR 1, jI x2, jI x3] [] (jG, M) Q :=
  (J_aload_n dX5_wronged_0 rfl (J_iload_n dX5_wronged_1 rfl (J_callV (a1 := (0, 0)) (a2 := (0, 0)) (mm' := mX1_has) (S := []) [jI x2] md_X1_has im_X1_has se_X1_has dX5_wronged_2 wm_X5_30 jcl_X1.1 rfl g_1 rfl rfl (Nat.le_of_ble_eq_true rfl) (Nat.le_of_ble_eq_true rfl) rfl (c_X1_has hi_1  (fun c1 => (J_if_eq dX5_wronged_5 (tgt := 50) (by decide) (fun c => absurd c (by decide)) (fun _ => (J_aload_n dX5_wronged_8 rfl (J_iload_n dX5_wronged_9 rfl (J_callV (a1 := (0, 0)) (a2 := (0, 0)) (mm' := mX1_has) (S := []) [jI x3] md_X1_has im_X1_has se_X1_has dX5_wronged_10 wm_X5_30 jcl_X1.1 rfl g_1 rfl rfl (Nat.le_of_ble_eq_true rfl) (Nat.le_of_ble_eq_true rfl) rfl (c_X1_has hi_1  (fun c2 => (J_if_eq dX5_wronged_13 (tgt := 50) (by decide) (fun c => absurd c (by decide)) (fun _ => (J_aload_n dX5_wronged_16 rfl (J_getRN (k := 0) jcl_X1 dX5_wronged_17 wf_X5_36 g_1 (Nat.le_of_ble_eq_true rfl) rfl rfl (J_iload_n dX5_wronged_20 rfl (J_iald dX5_wronged_21 g_2 (s1 c1 c2) (s2 c1 c2) (J_aload_n dX5_wronged_22 rfl (J_getRN (k := 0) jcl_X1 dX5_wronged_23 wf_X5_36 g_1 (Nat.le_of_ble_eq_true rfl) rfl rfl (J_iload_n dX5_wronged_26 rfl (J_iald dX5_wronged_27 g_2 (s3 c1 c2) (s4 c1 c2) (J_icmp_lt dX5_wronged_28 (tgt := 50) (by decide) (fun c3 => (J_iconst dX5_wronged_50 jc_0 (J_zret dX5_wronged_51 rfl (Or.inl rfl) (k1 c1 c2 c3)))) (fun c3 => (J_aload_n dX5_wronged_31 rfl (J_getR (k := 0) jcl_X5 dX5_wronged_32 wf_X5_9 g_66 (Nat.le_of_ble_eq_true rfl) rfl rfl (J_iload_n dX5_wronged_35 rfl (J_iald dX5_wronged_36 g_67 (s5 c1 c2 c3) (s6 c1 c2 c3) (J_aload_n dX5_wronged_37 rfl (J_getR (k := 0) jcl_X5 dX5_wronged_38 wf_X5_9 g_66 (Nat.le_of_ble_eq_true rfl) rfl rfl (J_iload_n dX5_wronged_41 rfl (J_iald dX5_wronged_42 g_67 (s7 c1 c2 c3) (s8 c1 c2 c3) (J_icmp_le dX5_wronged_43 (tgt := 50) (by decide) (fun c4 => (J_iconst dX5_wronged_50 jc_0 (J_zret dX5_wronged_51 rfl (Or.inl rfl) (k2 c1 c2 c3 c4)))) (fun c4 => (J_iconst dX5_wronged_46 jc_1 (J_goto dX5_wronged_47 (tgt := 51) (by decide) (J_zret dX5_wronged_51 rfl (Or.inr rfl) (k3 c1 c2 c3 c4))))))))))))))))))))))))))) (fun c2 => (J_if_eq dX5_wronged_13 (tgt := 50) (by decide) (fun _ => (J_iconst dX5_wronged_50 jc_0 (J_zret dX5_wronged_51 rfl (Or.inl rfl) (k4 c1 c2)))) (fun c => absurd c (by decide))))))))))) (fun c1 => (J_if_eq dX5_wronged_5 (tgt := 50) (by decide) (fun _ => (J_iconst dX5_wronged_50 jc_0 (J_zret dX5_wronged_51 rfl (Or.inl rfl) (k5 c1)))) (fun c => absurd c (by decide))))))))
theorem b_X6_add_0 {l : Launch} {z d : Nat} {X : jX} {M : Nat → Int → Int} {Q : Option jV → jM → Prop} {h : Nat} {x1 : Int} {x2 : Int} (hh : jSi h) (s1 : 0 ≤ (M h 2) → (M h 2) < 8 → 0 ≤ (M h 2)) (s2 : 0 ≤ (M h 2) → (M h 2) < 8 → (M h 2) < 8) (s3 : 0 ≤ (M h 2) → (M h 2) < 8 → 0 ≤ ((jupd M (h + 1) (M h 2) x1) h 2)) (s4 : 0 ≤ (M h 2) → (M h 2) < 8 → ((jupd M (h + 1) (M h 2) x1) h 2) < 8) (s5 : 0 ≤ (M h 2) → (M h 2) < 8 → jIn (((jupd (jupd M (h + 1) (M h 2) x1) (h + 2) ((jupd M (h + 1) (M h 2) x1) h 2) x2) h 2) + 1)) (k1 : (M h 2) < 0 → Q (some (jI 0)) (jG, M)) (k2 : 0 ≤ (M h 2) → (M h 2) < 8 → Q (some (jI 1)) (jG, (jupd (jupd (jupd M (h + 1) (M h 2) x1) (h + 2) ((jupd M (h + 1) (M h 2) x1) h 2) x2) h 2 (((jupd (jupd M (h + 1) (M h 2) x1) (h + 2) ((jupd M (h + 1) (M h 2) x1) h 2) x2) h 2) + 1)))) (k3 : 0 ≤ (M h 2) → 8 ≤ (M h 2) → Q (some (jI 0)) (jG, M)) : J l z X d mX6_add (0, 0) 0 [jR h, jI x1, jI x2] [] (jG, M) Q :=
  (J_aload_n dX6_add_0 rfl (J_getI (k := 2) (kz := 2) jcl_X6 dX6_add_1 wf_X6_18 hh.1 (Nat.le_of_ble_eq_true rfl) rfl rfl (J_if_lt dX6_add_4 (tgt := 16) (by decide) (fun c1 => (J_iconst dX6_add_16 jc_0 (J_zret dX6_add_17 rfl (Or.inl rfl) (k1 c1)))) (fun c1 => (J_aload_n dX6_add_7 rfl (J_getI (k := 2) (kz := 2) jcl_X6 dX6_add_8 wf_X6_18 hh.1 (Nat.le_of_ble_eq_true rfl) rfl rfl (J_bipush dX6_add_11 jc_8 jb_8 (J_icmp_lt dX6_add_13 (tgt := 18) (by decide) (fun c2 => (J_aload_n dX6_add_18 rfl (J_getR (k := 0) jcl_X6 dX6_add_19 wf_X6_11 hh.1 (Nat.le_of_ble_eq_true rfl) rfl rfl (J_aload_n dX6_add_22 rfl (J_getI (k := 2) (kz := 2) jcl_X6 dX6_add_23 wf_X6_18 hh.1 (Nat.le_of_ble_eq_true rfl) rfl rfl (J_iload_n dX6_add_26 rfl (J_iast dX6_add_27 hh.2.1 (s1 c1 c2) (s2 c1 c2) (J_aload_n dX6_add_28 rfl (J_getR (k := 1) jcl_X6 dX6_add_29 wf_X6_15 hh.1 (Nat.le_of_ble_eq_true rfl) rfl rfl (J_aload_n dX6_add_32 rfl (J_getI (k := 2) (kz := 2) jcl_X6 dX6_add_33 wf_X6_18 hh.1 (Nat.le_of_ble_eq_true rfl) rfl rfl (J_iload_n dX6_add_36 rfl (J_iast dX6_add_37 hh.2.2 (s3 c1 c2) (s4 c1 c2) (J_aload_n dX6_add_38 rfl (J_dupR dX6_add_39 (J_getI (k := 2) (kz := 2) jcl_X6 dX6_add_40 wf_X6_18 hh.1 (Nat.le_of_ble_eq_true rfl) rfl rfl (J_iconst dX6_add_43 jc_1 (J_iadd dX6_add_44 (s5 c1 c2) (J_putI (k := 2) (kz := 2) jcl_X6 dX6_add_45 wf_X6_18 hh.1 (Nat.le_of_ble_eq_true rfl) rfl rfl rfl (J_iconst dX6_add_48 jc_1 (J_zret dX6_add_49 rfl (Or.inr rfl) (k2 c1 c2)))))))))))))))))))))) (fun c2 => (J_iconst dX6_add_16 jc_0 (J_zret dX6_add_17 rfl (Or.inl rfl) (k3 c1 c2))))))))))))
theorem b_X6_takeOver_0 {l : Launch} {z d : Nat} {X : jX} {M : Nat → Int → Int} {Q : Option jV → jM → Prop} {h : Nat} {h2 : Nat} (hh : jSi h) (hh2 : jSi h2)  (k1 : Q none (jG, (jupd (jcpy (jcpy M (h2 + 1) (h + 1) 8) (h2 + 2) (h + 2) 8) h 2 ((jcpy (jcpy M (h2 + 1) (h + 1) 8) (h2 + 2) (h + 2) 8) h2 2)))) : J l z X (d + 1) mX6_takeOver (0, 0) 0 [jR h, jR h2] [] (jG, M) Q :=
  (J_aload_n dX6_takeOver_0 rfl (J_getR (k := 0) jcl_X6 dX6_takeOver_1 wf_X6_11 hh2.1 (Nat.le_of_ble_eq_true rfl) rfl rfl (J_iconst dX6_takeOver_4 jc_0 (J_aload_n dX6_takeOver_5 rfl (J_getR (k := 0) jcl_X6 dX6_takeOver_6 wf_X6_11 hh.1 (Nat.le_of_ble_eq_true rfl) rfl rfl (J_iconst dX6_takeOver_9 jc_0 (J_bipush dX6_takeOver_10 jc_8 jb_8 (J_acopy dX6_takeOver_12 wm_X6_22 wac_1 wac_2 wac_3 hh2.2.1 hh.2.1 (by decide) (by decide) (by decide) (by decide) (Nat.succ_le_succ (Nat.zero_le _)) (J_aload_n dX6_takeOver_15 rfl (J_getR (k := 1) jcl_X6 dX6_takeOver_16 wf_X6_15 hh2.1 (Nat.le_of_ble_eq_true rfl) rfl rfl (J_iconst dX6_takeOver_19 jc_0 (J_aload_n dX6_takeOver_20 rfl (J_getR (k := 1) jcl_X6 dX6_takeOver_21 wf_X6_15 hh.1 (Nat.le_of_ble_eq_true rfl) rfl rfl (J_iconst dX6_takeOver_24 jc_0 (J_bipush dX6_takeOver_25 jc_8 jb_8 (J_acopy dX6_takeOver_27 wm_X6_22 wac_1 wac_2 wac_3 hh2.2.2 hh.2.2 (by decide) (by decide) (by decide) (by decide) (Nat.succ_le_succ (Nat.zero_le _)) (J_aload_n dX6_takeOver_30 rfl (J_aload_n dX6_takeOver_31 rfl (J_getI (k := 2) (kz := 2) jcl_X6 dX6_takeOver_32 wf_X6_18 hh2.1 (Nat.le_of_ble_eq_true rfl) rfl rfl (J_putI (k := 2) (kz := 2) jcl_X6 dX6_takeOver_35 wf_X6_18 hh.1 (Nat.le_of_ble_eq_true rfl) rfl rfl rfl (J_vret dX6_takeOver_38 rfl k1)))))))))))))))))))))
theorem b_X6_givers_0 {l : Launch} {z d : Nat} {X : jX} {M : Nat → Int → Int} {Q : Option jV → jM → Prop} {h : Nat} (hh : jSi h)  (k1 : J l z X (d + 4) mX6_givers (0, 0) 4 [jR h, jR 1, jI 0, jI 0] [] (jG, M) Q) : J l z X (d + 4) mX6_givers (0, 0) 0 [jR h, jR 1, jN, jN] [] (jG, M) Q :=
  (J_iconst dX6_givers_0 jc_0 (J_istore_n dX6_givers_1 (Nat.le_of_ble_eq_true rfl) (J_iconst dX6_givers_2 jc_0 (J_istore_n dX6_givers_3 (Nat.le_of_ble_eq_true rfl) k1))))
theorem b_X6_givers_4 {l : Launch} {z d : Nat} {X : jX} {M : Nat → Int → Int} {Q : Option jV → jM → Prop} {h : Nat} {x2 : Int} {x3 : Int} (hh : jSi h)  (k1 : 6 < x3 → Q (some (jI x2)) (jG, M)) (k2 : x3 ≤ 6 → x3 = 6 → J l z X (d + 4) mX6_givers (0, 0) 24 [jR h, jR 1, jI x2, jI x3] [] (jG, M) Q) (k3 : x3 ≤ 6 → x3 ≠ 6 → hasB (M 1 4) x3 = true → J l z X (d + 4) mX6_givers (0, 0) 24 [jR h, jR 1, jI x2, jI x3] [] (jG, M) Q) (k4 : x3 ≤ 6 → x3 ≠ 6 → hasB (M 1 4) x3 = false → J l z X (d + 4) mX6_givers (0, 0) 39 [jR h, jR 1, jI x2, jI x3] [] (jG, M) Q) : J l z X (d + 4) mX6_givers (0, 0) 4 [jR h, jR 1, jI x2, jI x3] [] (jG, M) Q :=
  (J_iload_n dX6_givers_4 rfl (J_bipush dX6_givers_5 jc_6 jb_6 (J_icmp_gt dX6_givers_7 (tgt := 45) (by decide) (fun c1 => (J_iload_n dX6_givers_45 rfl (J_iret dX6_givers_46 rfl (k1 c1)))) (fun c1 => (J_iload_n dX6_givers_10 rfl (J_bipush dX6_givers_11 jc_6 jb_6 (J_icmp_eq dX6_givers_13 (tgt := 24) (by decide) (fun c2 => (k2 c1 c2)) (fun c2 => (J_aload_n dX6_givers_16 rfl (J_iload_n dX6_givers_17 rfl (J_callV (a1 := (0, 0)) (a2 := (0, 0)) (mm' := mX1_has) (S := []) [jI x3] md_X1_has im_X1_has se_X1_has dX6_givers_18 wm_X6_28 jcl_X1.1 rfl g_1 rfl rfl (Nat.le_of_ble_eq_true rfl) (Nat.le_of_ble_eq_true rfl) rfl (c_X1_has hi_1  (fun c3 => (J_if_eq dX6_givers_21 (tgt := 39) (by decide) (fun c => absurd c (by decide)) (fun _ => (k3 c1 c2 c3)))) (fun c3 => (J_if_eq dX6_givers_21 (tgt := 39) (by decide) (fun _ => (k4 c1 c2 c3)) (fun c => absurd c (by decide))))))))))))))))
theorem b_X6_givers_24 {l : Launch} {z d : Nat} {X : jX} {M : Nat → Int → Int} {Q : Option jV → jM → Prop} {h : Nat} {x2 : Int} {x3 : Int} (hh : jSi h)  (k1 : J l z X (d + 3) mX6_fits (0, 0) 0 [jR h, jR 1, jI x3, jN] [] (jG, M) (fun r μ => J l z X (d + 4) mX6_givers (0, 0) 30 [jR h, jR 1, jI x2, jI x3] (r.toList ++ []) μ Q)) : J l z X (d + 4) mX6_givers (0, 0) 24 [jR h, jR 1, jI x2, jI x3] [] (jG, M) Q :=
  (J_aload_n dX6_givers_24 rfl (J_aload_n dX6_givers_25 rfl (J_iload_n dX6_givers_26 rfl (J_callV (a1 := (0, 0)) (a2 := (0, 0)) (mm' := mX6_fits) (S := []) [jR 1, jI x3] md_X6_fits im_X6_fits se_X6_fits dX6_givers_27 wm_X6_34 jcl_X6.1 rfl hh.1 rfl rfl (Nat.le_of_ble_eq_true rfl) (Nat.le_of_ble_eq_true rfl) rfl k1))))
theorem b_X6_givers_30 {l : Launch} {z d : Nat} {X : jX} {M : Nat → Int → Int} {Q : Option jV → jM → Prop} {h : Nat} {x2 : Int} {x3 : Int} {t0 : Int} (hh : jSi h)  (k1 : t0 = 0 → J l z X (d + 4) mX6_givers (0, 0) 39 [jR h, jR 1, jI x2, jI x3] [] (jG, M) Q) (k2 : t0 ≠ 0 → J l z X (d + 4) mX6_givers (0, 0) 39 [jR h, jR 1, jI (jor x2 (jshl 1 x3)), jI x3] [] (jG, M) Q) : J l z X (d + 4) mX6_givers (0, 0) 30 [jR h, jR 1, jI x2, jI x3] [jI t0] (jG, M) Q :=
  (J_if_eq dX6_givers_30 (tgt := 39) (by decide) (fun c1 => (k1 c1)) (fun c1 => (J_iload_n dX6_givers_33 rfl (J_iconst dX6_givers_34 jc_1 (J_iload_n dX6_givers_35 rfl (J_ishl dX6_givers_36 (J_ior dX6_givers_37 (J_istore_n dX6_givers_38 (Nat.le_of_ble_eq_true rfl) (k2 c1)))))))))
theorem b_X6_givers_39 {l : Launch} {z d : Nat} {X : jX} {M : Nat → Int → Int} {Q : Option jV → jM → Prop} {h : Nat} {x2 : Int} {x3 : Int} (hh : jSi h) (s1 : jIn (x3 + 1)) (k1 : J l z X (d + 4) mX6_givers (0, 0) 4 [jR h, jR 1, jI x2, jI (x3 + 1)] [] (jG, M) Q) : J l z X (d + 4) mX6_givers (0, 0) 39 [jR h, jR 1, jI x2, jI x3] [] (jG, M) Q :=
  (J_iinc dX6_givers_39 rfl jc_1 s1 (J_goto dX6_givers_42 (tgt := 4) (by decide) k1))
theorem b_X6_fits_0 {l : Launch} {z d : Nat} {X : jX} {M : Nat → Int → Int} {Q : Option jV → jM → Prop} {h : Nat} {x2 : Int} (hh : jSi h)  (k1 : J l z X (d + 3) mX6_fits (0, 0) 2 [jR h, jR 1, jI x2, jI 0] [] (jG, M) Q) : J l z X (d + 3) mX6_fits (0, 0) 0 [jR h, jR 1, jI x2, jN] [] (jG, M) Q :=
  (J_iconst dX6_fits_0 jc_0 (J_istore_n dX6_fits_1 (Nat.le_of_ble_eq_true rfl) k1))
theorem b_X6_fits_2 {l : Launch} {z d : Nat} {X : jX} {M : Nat → Int → Int} {Q : Option jV → jM → Prop} {h : Nat} {x2 : Int} {x3 : Int} (hh : jSi h) (s1 : x3 < (M h 2) → x3 < 8 → 0 ≤ x3) (s2 : x3 < (M h 2) → x3 < 8 → x3 < 8) (s3 : x3 < (M h 2) → x3 < 8 → hasB (M 1 4) (M (h + 1) x3) = true → 0 ≤ x3) (s4 : x3 < (M h 2) → x3 < 8 → hasB (M 1 4) (M (h + 1) x3) = true → x3 < 8) (k1 : (M h 2) ≤ x3 → Q (some (jI 1)) (jG, M)) (k2 : x3 < (M h 2) → 8 ≤ x3 → Q (some (jI 1)) (jG, M)) (k3 : x3 < (M h 2) → x3 < 8 → hasB (M 1 4) (M (h + 1) x3) = true → J l z X (d + 2) mX6_looksBehind (0, 0) 0 [jR 1, jI x2, jI (M (h + 1) x3)] [] (jG, M) (fun r μ => J l z X (d + 3) mX6_fits (0, 0) 40 [jR h, jR 1, jI x2, jI x3] (r.toList ++ []) μ Q)) (k4 : x3 < (M h 2) → x3 < 8 → hasB (M 1 4) (M (h + 1) x3) = false → Q (some (jI 0)) (jG, M)) : J l z X (d + 3) mX6_fits (0, 0) 2 [jR h, jR 1, jI x2, jI x3] [] (jG, M) Q :=
  (J_iload_n dX6_fits_2 rfl (J_aload_n dX6_fits_3 rfl (J_getI (k := 2) (kz := 2) jcl_X6 dX6_fits_4 wf_X6_18 hh.1 (Nat.le_of_ble_eq_true rfl) rfl rfl (J_icmp_ge dX6_fits_7 (tgt := 57) (by decide) (fun c1 => (J_iconst dX6_fits_57 jc_1 (J_zret dX6_fits_58 rfl (Or.inr rfl) (k1 c1)))) (fun c1 => (J_iload_n dX6_fits_10 rfl (J_bipush dX6_fits_11 jc_8 jb_8 (J_icmp_ge dX6_fits_13 (tgt := 57) (by decide) (fun c2 => (J_iconst dX6_fits_57 jc_1 (J_zret dX6_fits_58 rfl (Or.inr rfl) (k2 c1 c2)))) (fun c2 => (J_aload_n dX6_fits_16 rfl (J_aload_n dX6_fits_17 rfl (J_getR (k := 0) jcl_X6 dX6_fits_18 wf_X6_11 hh.1 (Nat.le_of_ble_eq_true rfl) rfl rfl (J_iload_n dX6_fits_21 rfl (J_iald dX6_fits_22 hh.2.1 (s1 c1 c2) (s2 c1 c2) (J_callV (a1 := (0, 0)) (a2 := (0, 0)) (mm' := mX1_has) (S := []) [jI (M (h + 1) x3)] md_X1_has im_X1_has se_X1_has dX6_fits_23 wm_X6_28 jcl_X1.1 rfl g_1 rfl rfl (Nat.le_of_ble_eq_true rfl) (Nat.le_of_ble_eq_true rfl) rfl (c_X1_has hi_1  (fun c3 => (J_if_eq dX6_fits_26 (tgt := 49) (by decide) (fun c => absurd c (by decide)) (fun _ => (J_aload_n dX6_fits_29 rfl (J_iload_n dX6_fits_30 rfl (J_aload_n dX6_fits_31 rfl (J_getR (k := 0) jcl_X6 dX6_fits_32 wf_X6_11 hh.1 (Nat.le_of_ble_eq_true rfl) rfl rfl (J_iload_n dX6_fits_35 rfl (J_iald dX6_fits_36 hh.2.1 (s3 c1 c2 c3) (s4 c1 c2 c3) (J_callS (a1 := (0, 0)) (a2 := (0, 0)) (mm' := mX6_looksBehind) (S := []) [jR 1, jI x2, jI (M (h + 1) x3)] md_X6_looksBehind is_X6_looksBehind dX6_fits_37 wm_X6_38 rfl rfl (Nat.le_of_ble_eq_true rfl) (Nat.le_of_ble_eq_true rfl) rfl (k3 c1 c2 c3))))))))))) (fun c3 => (J_if_eq dX6_fits_26 (tgt := 49) (by decide) (fun _ => (J_iconst dX6_fits_49 jc_0 (J_zret dX6_fits_50 rfl (Or.inl rfl) (k4 c1 c2 c3)))) (fun c => absurd c (by decide))))))))))))))))))))
theorem b_X6_fits_40 {l : Launch} {z d : Nat} {X : jX} {M : Nat → Int → Int} {Q : Option jV → jM → Prop} {h : Nat} {x2 : Int} {x3 : Int} {t0 : Int} (hh : jSi h) (s1 : 0 ≤ x3) (s2 : x3 < 8) (s3 : t0 = (M (h + 2) x3) → jIn (x3 + 1)) (k1 : t0 = (M (h + 2) x3) → J l z X (d + 3) mX6_fits (0, 0) 2 [jR h, jR 1, jI x2, jI (x3 + 1)] [] (jG, M) Q) (k2 : t0 ≠ (M (h + 2) x3) → Q (some (jI 0)) (jG, M)) : J l z X (d + 3) mX6_fits (0, 0) 40 [jR h, jR 1, jI x2, jI x3] [jI t0] (jG, M) Q :=
  (J_aload_n dX6_fits_40 rfl (J_getR (k := 1) jcl_X6 dX6_fits_41 wf_X6_15 hh.1 (Nat.le_of_ble_eq_true rfl) rfl rfl (J_iload_n dX6_fits_44 rfl (J_iald dX6_fits_45 hh.2.2 s1 s2 (J_icmp_eq dX6_fits_46 (tgt := 51) (by decide) (fun c1 => (J_iinc dX6_fits_51 rfl jc_1 (s3 c1) (J_goto dX6_fits_54 (tgt := 2) (by decide) (k1 c1)))) (fun c1 => (J_iconst dX6_fits_49 jc_0 (J_zret dX6_fits_50 rfl (Or.inl rfl) (k2 c1)))))))))
theorem b_X6_leftAtMost_0 {l : Launch} {z d : Nat} {X : jX} {M : Nat → Int → Int} {Q : Option jV → jM → Prop} {x1 : Int} {x2 : Int}  (s1 : 0 ≤ x1 ∧ x1 < 128) (k1 : hasB (M 1 4) x2 = true → J l z X (d + 2) mX6_looksBehind (0, 0) 0 [jR 1, jI x2, jI x2] [] (jG, M) (fun r μ => J l z X (d + 3) mX6_leftAtMost (0, 0) 19 [jR 1, jI x1, jI x2, jI (popc x1), jN] (r.toList ++ []) μ Q)) (k2 : hasB (M 1 4) x2 = false → Q (some (jI (popc x1))) (jG, M)) : J l z X (d + 3) mX6_leftAtMost (0, 0) 0 [jR 1, jI x1, jI x2, jN, jN] [] (jG, M) Q :=
  (J_iload_n dX6_leftAtMost_0 rfl (J_callS (a1 := (0, 0)) (a2 := (0, 0)) (mm' := mJ6_bitCount_0f7a4) (S := []) [jI x1] md_J6_bitCount_0f7a4 is_J6_bitCount_0f7a4 dX6_leftAtMost_1 wm_X6_42 rfl rfl (Nat.le_of_ble_eq_true rfl) (Nat.le_of_ble_eq_true rfl) rfl (c_J6_bitCount_0f7a4  s1 (J_istore_n dX6_leftAtMost_4 (Nat.le_of_ble_eq_true rfl) (J_aload_n dX6_leftAtMost_5 rfl (J_iload_n dX6_leftAtMost_6 rfl (J_callV (a1 := (0, 0)) (a2 := (0, 0)) (mm' := mX1_has) (S := []) [jI x2] md_X1_has im_X1_has se_X1_has dX6_leftAtMost_7 wm_X6_28 jcl_X1.1 rfl g_1 rfl rfl (Nat.le_of_ble_eq_true rfl) (Nat.le_of_ble_eq_true rfl) rfl (c_X1_has hi_1  (fun c1 => (J_if_eq dX6_leftAtMost_10 (tgt := 29) (by decide) (fun c => absurd c (by decide)) (fun _ => (J_aload_n dX6_leftAtMost_13 rfl (J_iload_n dX6_leftAtMost_14 rfl (J_iload_n dX6_leftAtMost_15 rfl (J_callS (a1 := (0, 0)) (a2 := (0, 0)) (mm' := mX6_looksBehind) (S := []) [jR 1, jI x2, jI x2] md_X6_looksBehind is_X6_looksBehind dX6_leftAtMost_16 wm_X6_38 rfl rfl (Nat.le_of_ble_eq_true rfl) (Nat.le_of_ble_eq_true rfl) rfl (k1 c1)))))))) (fun c1 => (J_if_eq dX6_leftAtMost_10 (tgt := 29) (by decide) (fun _ => (J_iload_n dX6_leftAtMost_29 rfl (J_iret dX6_leftAtMost_30 rfl (k2 c1)))) (fun c => absurd c (by decide))))))))))))
theorem b_X6_leftAtMost_19 {l : Launch} {z d : Nat} {X : jX} {M : Nat → Int → Int} {Q : Option jV → jM → Prop} {x1 : Int} {x2 : Int} {x3 : Int} {t0 : Int}   (k1 : J l z X (d + 2) mX6_looksBehind (0, 0) 0 [jR 1, jI 6, jI x2] [] (jG, M) (fun r μ => J l z X (d + 3) mX6_leftAtMost (0, 0) 26 [jR 1, jI x1, jI x2, jI x3, jN] (r.toList ++ [jI t0]) μ Q)) : J l z X (d + 3) mX6_leftAtMost (0, 0) 19 [jR 1, jI x1, jI x2, jI x3, jN] [jI t0] (jG, M) Q :=
  (J_aload_n dX6_leftAtMost_19 rfl (J_bipush dX6_leftAtMost_20 jc_6 jb_6 (J_iload_n dX6_leftAtMost_22 rfl (J_callS (a1 := (0, 0)) (a2 := (0, 0)) (mm' := mX6_looksBehind) (S := [jI t0]) [jR 1, jI 6, jI x2] md_X6_looksBehind is_X6_looksBehind dX6_leftAtMost_23 wm_X6_38 rfl rfl (Nat.le_of_ble_eq_true rfl) (Nat.le_of_ble_eq_true rfl) rfl k1))))
theorem b_X6_leftAtMost_26 {l : Launch} {z d : Nat} {X : jX} {M : Nat → Int → Int} {Q : Option jV → jM → Prop} {x1 : Int} {x2 : Int} {x3 : Int} {t0 : Int} {t1 : Int}  (s1 : t0 ≠ t1 → jIn (x3 - (jand (jshr x1 x2) 1))) (k1 : t0 ≠ t1 → Q (some (jI (max (jand (jshr x1 x2) 1) (x3 - (jand (jshr x1 x2) 1))))) (jG, M)) (k2 : t0 = t1 → Q (some (jI x3)) (jG, M)) : J l z X (d + 3) mX6_leftAtMost (0, 0) 26 [jR 1, jI x1, jI x2, jI x3, jN] [jI t1, jI t0] (jG, M) Q :=
  (J_icmp_ne dX6_leftAtMost_26 (tgt := 31) (by decide) (fun c1 => (J_iload_n dX6_leftAtMost_31 rfl (J_iload_n dX6_leftAtMost_32 rfl (J_ishr dX6_leftAtMost_33 (J_iconst dX6_leftAtMost_34 jc_1 (J_iand dX6_leftAtMost_35 (J_istore dX6_leftAtMost_36 (Nat.le_of_ble_eq_true rfl) (J_iload dX6_leftAtMost_38 rfl (J_iload_n dX6_leftAtMost_40 rfl (J_iload dX6_leftAtMost_41 rfl (J_isub dX6_leftAtMost_43 (s1 c1) (J_mmax dX6_leftAtMost_44 wm_X6_48 is_J9_max_7cf53 wi_J9 mc_J9_max_7cf53 (Nat.succ_le_succ (Nat.zero_le _)) (Nat.le_of_ble_eq_true rfl) (J_iret dX6_leftAtMost_47 rfl (k1 c1)))))))))))))) (fun c1 => (J_iload_n dX6_leftAtMost_29 rfl (J_iret dX6_leftAtMost_30 rfl (k2 c1)))))
theorem b_X6_looksBehind_0 {l : Launch} {z d : Nat} {X : jX} {M : Nat → Int → Int} {Q : Option jV → jM → Prop} {x1 : Int} {x2 : Int}  (s1 : hasB (M 1 4) x2 = true → 0 ≤ x2) (s2 : hasB (M 1 4) x2 = true → x2 < 6) (k1 : hasB (M 1 4) x2 = true → x1 ≠ x2 → J l z X (d + 2) mX6_looksBehind (0, 0) 26 [jR 1, jI x1, jI x2] [jI 2, jI (M 2 x2), jI x2, jR 1] (jG, M) Q) (k2 : hasB (M 1 4) x2 = true → x1 = x2 → J l z X (d + 2) mX6_looksBehind (0, 0) 26 [jR 1, jI x1, jI x2] [jI 1, jI (M 2 x2), jI x2, jR 1] (jG, M) Q) (k3 : hasB (M 1 4) x2 = false → Q (some (jI (-6))) (jG, M)) : J l z X (d + 2) mX6_looksBehind (0, 0) 0 [jR 1, jI x1, jI x2] [] (jG, M) Q :=
  (J_aload_n dX6_looksBehind_0 rfl (J_iload_n dX6_looksBehind_1 rfl (J_callV (a1 := (0, 0)) (a2 := (0, 0)) (mm' := mX1_has) (S := []) [jI x2] md_X1_has im_X1_has se_X1_has dX6_looksBehind_2 wm_X6_28 jcl_X1.1 rfl g_1 rfl rfl (Nat.le_of_ble_eq_true rfl) (Nat.le_of_ble_eq_true rfl) rfl (c_X1_has hi_1  (fun c1 => (J_if_eq dX6_looksBehind_5 (tgt := 32) (by decide) (fun c => absurd c (by decide)) (fun _ => (J_aload_n dX6_looksBehind_8 rfl (J_iload_n dX6_looksBehind_9 rfl (J_aload_n dX6_looksBehind_10 rfl (J_getRN (k := 0) jcl_X1 dX6_looksBehind_11 wf_X6_54 g_1 (Nat.le_of_ble_eq_true rfl) rfl rfl (J_iload_n dX6_looksBehind_14 rfl (J_iald dX6_looksBehind_15 g_2 (s1 c1) (s2 c1) (J_iload_n dX6_looksBehind_16 rfl (J_iload_n dX6_looksBehind_17 rfl (J_icmp_ne dX6_looksBehind_18 (tgt := 25) (by decide) (fun c2 => (J_iconst dX6_looksBehind_25 jc_2 (k1 c1 c2))) (fun c2 => (J_iconst dX6_looksBehind_21 jc_1 (J_goto dX6_looksBehind_22 (tgt := 26) (by decide) (k2 c1 c2)))))))))))))))) (fun c1 => (J_if_eq dX6_looksBehind_5 (tgt := 32) (by decide) (fun _ => (J_bipush dX6_looksBehind_32 jc_m6 jb_m6 (J_iret dX6_looksBehind_34 rfl (k3 c1)))) (fun c => absurd c (by decide))))))))
theorem b_X6_looksBehind_26 {l : Launch} {z d : Nat} {X : jX} {M : Nat → Int → Int} {Q : Option jV → jM → Prop} {x1 : Int} {x2 : Int} {t1 : Int} {t2 : Int} {t3 : Int}  (s1 : hasB (M 1 4) t1 = true → (-1000 ≤ t2 ∧ t2 ≤ 1000) ∧ (0 ≤ (M 3 t1) ∧ (M 3 t1) ≤ 9)) (k1 : Q (some (jI (agH (hasB (M 1 4) t1) (M 3 t1) (M 4 t1) t2 t3))) (jG, M)) : J l z X (d + 2) mX6_looksBehind (0, 0) 26 [jR 1, jI x1, jI x2] [jI t3, jI t2, jI t1, jR 1] (jG, M) Q :=
  (J_callV (a1 := (0, 0)) (a2 := (0, 0)) (mm' := mX1_aged) (S := []) [jI t1, jI t2, jI t3] md_X1_aged im_X1_aged se_X1_aged dX6_looksBehind_26 wm_X6_57 jcl_X1.1 rfl g_1 rfl rfl (Nat.le_of_ble_eq_true rfl) (Nat.le_of_ble_eq_true rfl) rfl (c_X1_aged hi_1 s1 (J_goto dX6_looksBehind_29 (tgt := 34) (by decide) (J_iret dX6_looksBehind_34 rfl k1))))
theorem b_X7_weigh_0 {l : Launch} {z d : Nat} {X : jX} {M : Nat → Int → Int} {Q : Option jV → jM → Prop} {x1 : Int} {x2 : Int} {x3 : Int} {x4 : Int}   (k1 : J l z X (d + 3) mX7_weigh (0, 0) 6 [jR 1, jI x1, jI x2, jI x3, jI x4, jL 0, jN, jI 0, jN, jN, jN, jN] [] (jG, M) Q) : J l z X (d + 3) mX7_weigh (0, 0) 0 [jR 1, jI x1, jI x2, jI x3, jI x4, jN, jN, jN, jN, jN, jN, jN] [] (jG, M) Q :=
  (J_lconst dX7_weigh_0 jlc_0 jlv_0 (J_lstore dX7_weigh_1 (Nat.le_of_ble_eq_true rfl) (J_iconst dX7_weigh_3 jc_0 (J_istore dX7_weigh_4 (Nat.le_of_ble_eq_true rfl) k1))))
theorem b_X7_weigh_6 {l : Launch} {z d : Nat} {X : jX} {M : Nat → Int → Int} {Q : Option jV → jM → Prop} {x1 : Int} {x2 : Int} {x3 : Int} {x4 : Int} {x5 : Int} {x7 : Int}   (k1 : (jshl 1 x2) ≤ x7 → Q (some (jL x5)) (jG, M)) (k2 : x7 < (jshl 1 x2) → J l z X (d + 2) mX7_looksBehind (0, 0) 0 [jR 1, jI x1, jI x2, jI x7, jN, jN] [] (jG, M) (fun r μ => J l z X (d + 3) mX7_weigh (0, 0) 22 [jR 1, jI x1, jI x2, jI x3, jI x4, jL x5, jN, jI x7, jN, jN, jN, jN] (r.toList ++ []) μ Q)) : J l z X (d + 3) mX7_weigh (0, 0) 6 [jR 1, jI x1, jI x2, jI x3, jI x4, jL x5, jN, jI x7, jN, jN, jN, jN] [] (jG, M) Q :=
  (J_iload dX7_weigh_6 rfl (J_iconst dX7_weigh_8 jc_1 (J_iload_n dX7_weigh_9 rfl (J_ishl dX7_weigh_10 (J_icmp_ge dX7_weigh_11 (tgt := 92) (by decide) (fun c1 => (J_lload dX7_weigh_92 rfl (J_lret dX7_weigh_94 rfl (k1 c1)))) (fun c1 => (J_aload_n dX7_weigh_14 rfl (J_iload_n dX7_weigh_15 rfl (J_iload_n dX7_weigh_16 rfl (J_iload dX7_weigh_17 rfl (J_callS (a1 := (0, 0)) (a2 := (0, 0)) (mm' := mX7_looksBehind) (S := []) [jR 1, jI x1, jI x2, jI x7] md_X7_looksBehind is_X7_looksBehind dX7_weigh_19 wm_X7_9 rfl rfl (Nat.le_of_ble_eq_true rfl) (Nat.le_of_ble_eq_true rfl) rfl (k2 c1))))))))))))
theorem b_X7_weigh_22 {l : Launch} {z d : Nat} {X : jX} {M : Nat → Int → Int} {Q : Option jV → jM → Prop} {x1 : Int} {x2 : Int} {x3 : Int} {x4 : Int} {x5 : Int} {x7 : Int} {t0 : Int}  (s1 : 0 ≤ x7 ∧ x7 < 128) (k1 : J l z X (d + 2) mX7_power (0, 0) 0 [jL x3, jN, jI (popc x7), jN, jN, jN] [] (jG, M) (fun r μ => J l z X (d + 3) mX7_weigh (0, 0) 38 [jR 1, jI x1, jI x2, jI x3, jI x4, jL x5, jN, jI x7, jI t0, jI (popc x7), jN, jN] (r.toList ++ []) μ Q)) : J l z X (d + 3) mX7_weigh (0, 0) 22 [jR 1, jI x1, jI x2, jI x3, jI x4, jL x5, jN, jI x7, jN, jN, jN, jN] [jI t0] (jG, M) Q :=
  (J_istore dX7_weigh_22 (Nat.le_of_ble_eq_true rfl) (J_iload dX7_weigh_24 rfl (J_callS (a1 := (0, 0)) (a2 := (0, 0)) (mm' := mJ6_bitCount_0f7a4) (S := []) [jI x7] md_J6_bitCount_0f7a4 is_J6_bitCount_0f7a4 dX7_weigh_26 wm_X7_15 rfl rfl (Nat.le_of_ble_eq_true rfl) (Nat.le_of_ble_eq_true rfl) rfl (c_J6_bitCount_0f7a4  s1 (J_istore dX7_weigh_29 (Nat.le_of_ble_eq_true rfl) (J_iload_n dX7_weigh_31 rfl (J_i2l dX7_weigh_32 (J_iload dX7_weigh_33 rfl (J_callS (a1 := (0, 0)) (a2 := (0, 0)) (mm' := mX7_power) (S := []) [jL x3, jI (popc x7)] md_X7_power is_X7_power dX7_weigh_35 wm_X7_21 rfl rfl (Nat.le_of_ble_eq_true rfl) (Nat.le_of_ble_eq_true rfl) rfl k1)))))))))
theorem b_X7_weigh_38 {l : Launch} {z d : Nat} {X : jX} {M : Nat → Int → Int} {Q : Option jV → jM → Prop} {x1 : Int} {x2 : Int} {x3 : Int} {x4 : Int} {x5 : Int} {x7 : Int} {x8 : Int} {x9 : Int} {t0 : Int}  (s1 : jIn (10 - x3)) (s2 : jIn (x2 - x9)) (k1 : J l z X (d + 2) mX7_power (0, 0) 0 [jL (10 - x3), jN, jI (x2 - x9), jN, jN, jN] [] (jG, M) (fun r μ => J l z X (d + 3) mX7_weigh (0, 0) 50 [jR 1, jI x1, jI x2, jI x3, jI x4, jL x5, jN, jI x7, jI x8, jI x9, jN, jN] (r.toList ++ [jL t0]) μ Q)) : J l z X (d + 3) mX7_weigh (0, 0) 38 [jR 1, jI x1, jI x2, jI x3, jI x4, jL x5, jN, jI x7, jI x8, jI x9, jN, jN] [jL t0] (jG, M) Q :=
  (J_bipush dX7_weigh_38 jc_10 jb_10 (J_iload_n dX7_weigh_40 rfl (J_isub dX7_weigh_41 s1 (J_i2l dX7_weigh_42 (J_iload_n dX7_weigh_43 rfl (J_iload dX7_weigh_44 rfl (J_isub dX7_weigh_46 s2 (J_callS (a1 := (0, 0)) (a2 := (0, 0)) (mm' := mX7_power) (S := [jL t0]) [jL (10 - x3), jI (x2 - x9)] md_X7_power is_X7_power dX7_weigh_47 wm_X7_21 rfl rfl (Nat.le_of_ble_eq_true rfl) (Nat.le_of_ble_eq_true rfl) rfl k1))))))))
theorem b_X7_weigh_50 {l : Launch} {z d : Nat} {X : jX} {M : Nat → Int → Int} {Q : Option jV → jM → Prop} {x1 : Int} {x2 : Int} {x3 : Int} {x4 : Int} {x5 : Int} {x7 : Int} {x8 : Int} {x9 : Int} {t0 : Int} {t1 : Int}  (s1 : jInL (t0 * t1)) (s2 : 0 ≤ x4 → x8 ≤ x4 → jInL (x5 + (t0 * t1))) (s3 : x4 < 0 → jInL ((t0 * t1) * x8)) (s4 : x4 < 0 → jInL (x5 + ((t0 * t1) * x8))) (k1 : 0 ≤ x4 → x4 < x8 → J l z X (d + 3) mX7_weigh (0, 0) 86 [jR 1, jI x1, jI x2, jI x3, jI x4, jL x5, jN, jI x7, jI x8, jI x9, jL (t0 * t1), jN] [] (jG, M) Q) (k2 : 0 ≤ x4 → x8 ≤ x4 → J l z X (d + 3) mX7_weigh (0, 0) 86 [jR 1, jI x1, jI x2, jI x3, jI x4, jL (x5 + (t0 * t1)), jN, jI x7, jI x8, jI x9, jL (t0 * t1), jN] [] (jG, M) Q) (k3 : x4 < 0 → J l z X (d + 3) mX7_weigh (0, 0) 86 [jR 1, jI x1, jI x2, jI x3, jI x4, jL (x5 + ((t0 * t1) * x8)), jN, jI x7, jI x8, jI x9, jL (t0 * t1), jN] [] (jG, M) Q) : J l z X (d + 3) mX7_weigh (0, 0) 50 [jR 1, jI x1, jI x2, jI x3, jI x4, jL x5, jN, jI x7, jI x8, jI x9, jN, jN] [jL t1, jL t0] (jG, M) Q :=
  (J_lmul dX7_weigh_50 s1 (J_lstore dX7_weigh_51 (Nat.le_of_ble_eq_true rfl) (J_iload dX7_weigh_53 rfl (J_if_ge dX7_weigh_55 (tgt := 72) (by decide) (fun c1 => (J_iload dX7_weigh_72 rfl (J_iload dX7_weigh_74 rfl (J_icmp_gt dX7_weigh_76 (tgt := 86) (by decide) (fun c2 => (k1 c1 c2)) (fun c2 => (J_lload dX7_weigh_79 rfl (J_lload dX7_weigh_81 rfl (J_ladd dX7_weigh_83 (s2 c1 c2) (J_lstore dX7_weigh_84 (Nat.le_of_ble_eq_true rfl) (k2 c1 c2)))))))))) (fun c1 => (J_lload dX7_weigh_58 rfl (J_lload dX7_weigh_60 rfl (J_iload dX7_weigh_62 rfl (J_i2l dX7_weigh_64 (J_lmul dX7_weigh_65 (s3 c1) (J_ladd dX7_weigh_66 (s4 c1) (J_lstore dX7_weigh_67 (Nat.le_of_ble_eq_true rfl) (J_goto dX7_weigh_69 (tgt := 86) (by decide) (k3 c1))))))))))))))
theorem b_X7_weigh_86 {l : Launch} {z d : Nat} {X : jX} {M : Nat → Int → Int} {Q : Option jV → jM → Prop} {x1 : Int} {x2 : Int} {x3 : Int} {x4 : Int} {x5 : Int} {x7 : Int} {x8 : Int} {x9 : Int} {x10 : Int}  (s1 : jIn (x7 + 1)) (k1 : J l z X (d + 3) mX7_weigh (0, 0) 6 [jR 1, jI x1, jI x2, jI x3, jI x4, jL x5, jN, jI (x7 + 1), jN, jN, jN, jN] [] (jG, M) Q) : J l z X (d + 3) mX7_weigh (0, 0) 86 [jR 1, jI x1, jI x2, jI x3, jI x4, jL x5, jN, jI x7, jI x8, jI x9, jL x10, jN] [] (jG, M) Q :=
  (J_iinc dX7_weigh_86 rfl jc_1 s1 (J_goto dX7_weigh_89 (tgt := 6) (by decide) (J_weak [jR 1, jI x1, jI x2, jI x3, jI x4, jL x5, jN, jI (x7 + 1), jN, jN, jN, jN] ⟨Or.inr rfl, Or.inr rfl, Or.inr rfl, Or.inr rfl, Or.inr rfl, Or.inr rfl, Or.inr rfl, Or.inr rfl, Or.inl rfl, Or.inl rfl, Or.inl rfl, Or.inr rfl, trivial⟩ k1)))
theorem b_X7_looksBehind_0 {l : Launch} {z d : Nat} {X : jX} {M : Nat → Int → Int} {Q : Option jV → jM → Prop} {x1 : Int} {x2 : Int} {x3 : Int}  (s1 : hasB (M 1 4) x1 = true → 0 ≤ x1) (s2 : hasB (M 1 4) x1 = true → x1 < 6) (k1 : hasB (M 1 4) x1 = true → J l z X (d + 2) mX7_looksBehind (0, 0) 18 [jR 1, jI x1, jI x2, jI x3, jN, jN] [jI (M 2 x1)] (jG, M) Q) (k2 : hasB (M 1 4) x1 = false → J l z X (d + 2) mX7_looksBehind (0, 0) 18 [jR 1, jI x1, jI x2, jI x3, jN, jN] [jI 0] (jG, M) Q) : J l z X (d + 2) mX7_looksBehind (0, 0) 0 [jR 1, jI x1, jI x2, jI x3, jN, jN] [] (jG, M) Q :=
  (J_aload_n dX7_looksBehind_0 rfl (J_iload_n dX7_looksBehind_1 rfl (J_callV (a1 := (0, 0)) (a2 := (0, 0)) (mm' := mX1_has) (S := []) [jI x1] md_X1_has im_X1_has se_X1_has dX7_looksBehind_2 wm_X7_25 jcl_X1.1 rfl g_1 rfl rfl (Nat.le_of_ble_eq_true rfl) (Nat.le_of_ble_eq_true rfl) rfl (c_X1_has hi_1  (fun c1 => (J_if_eq dX7_looksBehind_5 (tgt := 17) (by decide) (fun c => absurd c (by decide)) (fun _ => (J_aload_n dX7_looksBehind_8 rfl (J_getRN (k := 0) jcl_X1 dX7_looksBehind_9 wf_X7_31 g_1 (Nat.le_of_ble_eq_true rfl) rfl rfl (J_iload_n dX7_looksBehind_12 rfl (J_iald dX7_looksBehind_13 g_2 (s1 c1) (s2 c1) (J_goto dX7_looksBehind_14 (tgt := 18) (by decide) (k1 c1))))))))) (fun c1 => (J_if_eq dX7_looksBehind_5 (tgt := 17) (by decide) (fun _ => (J_iconst dX7_looksBehind_17 jc_0 (k2 c1))) (fun c => absurd c (by decide))))))))
theorem b_X7_looksBehind_18 {l : Launch} {z d : Nat} {X : jX} {M : Nat → Int → Int} {Q : Option jV → jM → Prop} {x1 : Int} {x2 : Int} {x3 : Int} {t0 : Int}   (k1 : J l z X (d + 2) mX7_looksBehind (0, 0) 23 [jR 1, jI x1, jI x2, jI x3, jI t0, jI 0] [] (jG, M) Q) : J l z X (d + 2) mX7_looksBehind (0, 0) 18 [jR 1, jI x1, jI x2, jI x3, jN, jN] [jI t0] (jG, M) Q :=
  (J_istore dX7_looksBehind_18 (Nat.le_of_ble_eq_true rfl) (J_iconst dX7_looksBehind_20 jc_0 (J_istore dX7_looksBehind_21 (Nat.le_of_ble_eq_true rfl) k1)))
theorem b_X7_looksBehind_23 {l : Launch} {z d : Nat} {X : jX} {M : Nat → Int → Int} {Q : Option jV → jM → Prop} {x1 : Int} {x2 : Int} {x3 : Int} {x4 : Int} {x5 : Int}   (k1 : x2 ≤ x5 → Q (some (jI x4)) (jG, M)) (k2 : x5 < x2 → (jand (jshr x3 x5) 1) ≠ 1 → J l z X (d + 2) mX7_looksBehind (0, 0) 48 [jR 1, jI x1, jI x2, jI x3, jI x4, jI x5] [jI 2, jI x4, jI x1, jR 1] (jG, M) Q) (k3 : x5 < x2 → (jand (jshr x3 x5) 1) = 1 → J l z X (d + 2) mX7_looksBehind (0, 0) 48 [jR 1, jI x1, jI x2, jI x3, jI x4, jI x5] [jI 0, jI x4, jI x1, jR 1] (jG, M) Q) : J l z X (d + 2) mX7_looksBehind (0, 0) 23 [jR 1, jI x1, jI x2, jI x3, jI x4, jI x5] [] (jG, M) Q :=
  (J_iload dX7_looksBehind_23 rfl (J_iload_n dX7_looksBehind_25 rfl (J_icmp_ge dX7_looksBehind_26 (tgt := 59) (by decide) (fun c1 => (J_iload dX7_looksBehind_59 rfl (J_iret dX7_looksBehind_61 rfl (k1 c1)))) (fun c1 => (J_aload_n dX7_looksBehind_29 rfl (J_iload_n dX7_looksBehind_30 rfl (J_iload dX7_looksBehind_31 rfl (J_iload_n dX7_looksBehind_33 rfl (J_iload dX7_looksBehind_34 rfl (J_ishr dX7_looksBehind_36 (J_iconst dX7_looksBehind_37 jc_1 (J_iand dX7_looksBehind_38 (J_iconst dX7_looksBehind_39 jc_1 (J_icmp_ne dX7_looksBehind_40 (tgt := 47) (by decide) (fun c2 => (J_iconst dX7_looksBehind_47 jc_2 (k2 c1 c2))) (fun c2 => (J_iconst dX7_looksBehind_43 jc_0 (J_goto dX7_looksBehind_44 (tgt := 48) (by decide) (k3 c1 c2))))))))))))))))))
theorem b_X7_looksBehind_48 {l : Launch} {z d : Nat} {X : jX} {M : Nat → Int → Int} {Q : Option jV → jM → Prop} {x1 : Int} {x2 : Int} {x3 : Int} {x4 : Int} {x5 : Int} {t1 : Int} {t2 : Int} {t3 : Int}  (s1 : hasB (M 1 4) t1 = true → (-1000 ≤ t2 ∧ t2 ≤ 1000) ∧ (0 ≤ (M 3 t1) ∧ (M 3 t1) ≤ 9)) (s2 : jIn (x5 + 1)) (k1 : J l z X (d + 2) mX7_looksBehind (0, 0) 23 [jR 1, jI x1, jI x2, jI x3, jI (agH (hasB (M 1 4) t1) (M 3 t1) (M 4 t1) t2 t3), jI (x5 + 1)] [] (jG, M) Q) : J l z X (d + 2) mX7_looksBehind (0, 0) 48 [jR 1, jI x1, jI x2, jI x3, jI x4, jI x5] [jI t3, jI t2, jI t1, jR 1] (jG, M) Q :=
  (J_callV (a1 := (0, 0)) (a2 := (0, 0)) (mm' := mX1_aged) (S := []) [jI t1, jI t2, jI t3] md_X1_aged im_X1_aged se_X1_aged dX7_looksBehind_48 wm_X7_35 jcl_X1.1 rfl g_1 rfl rfl (Nat.le_of_ble_eq_true rfl) (Nat.le_of_ble_eq_true rfl) rfl (c_X1_aged hi_1 s1 (J_istore dX7_looksBehind_51 (Nat.le_of_ble_eq_true rfl) (J_iinc dX7_looksBehind_53 rfl jc_1 s2 (J_goto dX7_looksBehind_56 (tgt := 23) (by decide) k1)))))
theorem b_X7_power_0 {l : Launch} {z d : Nat} {X : jX} {M : Nat → Int → Int} {Q : Option jV → jM → Prop} {x0 : Int} {x2 : Int}   (k1 : J l z X d mX7_power (0, 0) 5 [jL x0, jN, jI x2, jL 1, jN, jI 0] [] (jG, M) Q) : J l z X d mX7_power (0, 0) 0 [jL x0, jN, jI x2, jN, jN, jN] [] (jG, M) Q :=
  (J_lconst dX7_power_0 jlc_1 jlv_1 (J_lstore_n dX7_power_1 (Nat.le_of_ble_eq_true rfl) (J_iconst dX7_power_2 jc_0 (J_istore dX7_power_3 (Nat.le_of_ble_eq_true rfl) k1))))
theorem b_X7_power_5 {l : Launch} {z d : Nat} {X : jX} {M : Nat → Int → Int} {Q : Option jV → jM → Prop} {x0 : Int} {x2 : Int} {x3 : Int} {x5 : Int}  (s1 : x5 < x2 → jInL (x3 * x0)) (s2 : x5 < x2 → jIn (x5 + 1)) (k1 : x2 ≤ x5 → Q (some (jL x3)) (jG, M)) (k2 : x5 < x2 → J l z X d mX7_power (0, 0) 5 [jL x0, jN, jI x2, jL (x3 * x0), jN, jI (x5 + 1)] [] (jG, M) Q) : J l z X d mX7_power (0, 0) 5 [jL x0, jN, jI x2, jL x3, jN, jI x5] [] (jG, M) Q :=
  (J_iload dX7_power_5 rfl (J_iload_n dX7_power_7 rfl (J_icmp_ge dX7_power_8 (tgt := 21) (by decide) (fun c1 => (J_lload_n dX7_power_21 rfl (J_lret dX7_power_22 rfl (k1 c1)))) (fun c1 => (J_lload_n dX7_power_11 rfl (J_lload_n dX7_power_12 rfl (J_lmul dX7_power_13 (s1 c1) (J_lstore_n dX7_power_14 (Nat.le_of_ble_eq_true rfl) (J_iinc dX7_power_15 rfl jc_1 (s2 c1) (J_goto dX7_power_18 (tgt := 5) (by decide) (k2 c1)))))))))))
theorem b_X7_commonDivisor_0 {l : Launch} {z d : Nat} {X : jX} {M : Nat → Int → Int} {Q : Option jV → jM → Prop} {x0 : Int} {x2 : Int}   (k1 : J l z X (d + 1) mX7_commonDivisor (0, 0) 3 [jL x0, jN, jL x2, jN, jI 0, jN, jN] [] (jG, M) Q) : J l z X (d + 1) mX7_commonDivisor (0, 0) 0 [jL x0, jN, jL x2, jN, jN, jN, jN] [] (jG, M) Q :=
  (J_iconst dX7_commonDivisor_0 jc_0 (J_istore dX7_commonDivisor_1 (Nat.le_of_ble_eq_true rfl) k1))
theorem b_X7_commonDivisor_3 {l : Launch} {z d : Nat} {X : jX} {M : Nat → Int → Int} {Q : Option jV → jM → Prop} {x0 : Int} {x2 : Int} {x4 : Int}  (s1 : x4 < 200 → x2 ≠ 0 → 0 ≤ x0) (s2 : x4 < 200 → x2 ≠ 0 → 0 < x2) (s3 : x4 < 200 → x2 ≠ 0 → jIn (x4 + 1)) (k1 : 200 ≤ x4 → Q (some (jL (max 1 x0))) (jG, M)) (k2 : x4 < 200 → x2 = 0 → Q (some (jL (max 1 x0))) (jG, M)) (k3 : x4 < 200 → x2 ≠ 0 → J l z X (d + 1) mX7_commonDivisor (0, 0) 3 [jL x2, jN, jL (x0 % x2), jN, jI (x4 + 1), jN, jN] [] (jG, M) Q) : J l z X (d + 1) mX7_commonDivisor (0, 0) 3 [jL x0, jN, jL x2, jN, jI x4, jN, jN] [] (jG, M) Q :=
  (J_iload dX7_commonDivisor_3 rfl (J_sipush dX7_commonDivisor_5 jc_200 jsp_200 (J_icmp_ge dX7_commonDivisor_8 (tgt := 33) (by decide) (fun c1 => (J_lconst dX7_commonDivisor_33 jlc_1 jlv_1 (J_lload_n dX7_commonDivisor_34 rfl (J_mmaxL dX7_commonDivisor_35 wm_X7_39 is_J9_max_f86c9 wi_J9 mc_J9_max_f86c9 (Nat.succ_le_succ (Nat.zero_le _)) (Nat.le_of_ble_eq_true rfl) (J_lret dX7_commonDivisor_38 rfl (k1 c1)))))) (fun c1 => (J_lload_n dX7_commonDivisor_11 rfl (J_lconst dX7_commonDivisor_12 jlc_0 jlv_0 (J_lif_eq dX7_commonDivisor_13 dX7_commonDivisor_14 (tgt := 33) (by decide) (fun c2 => (J_lconst dX7_commonDivisor_33 jlc_1 jlv_1 (J_lload_n dX7_commonDivisor_34 rfl (J_mmaxL dX7_commonDivisor_35 wm_X7_39 is_J9_max_f86c9 wi_J9 mc_J9_max_f86c9 (Nat.succ_le_succ (Nat.zero_le _)) (Nat.le_of_ble_eq_true rfl) (J_lret dX7_commonDivisor_38 rfl (k2 c1 c2)))))) (fun c2 => (J_lload_n dX7_commonDivisor_17 rfl (J_lload_n dX7_commonDivisor_18 rfl (J_lrem dX7_commonDivisor_19 (s1 c1 c2) (s2 c1 c2) (J_lstore dX7_commonDivisor_20 (Nat.le_of_ble_eq_true rfl) (J_lload_n dX7_commonDivisor_22 rfl (J_lstore_n dX7_commonDivisor_23 (Nat.le_of_ble_eq_true rfl) (J_lload dX7_commonDivisor_24 rfl (J_lstore_n dX7_commonDivisor_26 (Nat.le_of_ble_eq_true rfl) (J_iinc dX7_commonDivisor_27 rfl jc_1 (s3 c1 c2) (J_goto dX7_commonDivisor_30 (tgt := 3) (by decide) (J_weak [jL x2, jN, jL (x0 % x2), jN, jI (x4 + 1), jN, jN] ⟨Or.inr rfl, Or.inr rfl, Or.inr rfl, Or.inr rfl, Or.inr rfl, Or.inl rfl, Or.inr rfl, trivial⟩ (k3 c1 c2))))))))))))))))))))
