theorem dX3_init_0 : decode cX3_init 0 = .ok (.aload_n 0, 1) := by decide +kernel
theorem dX3_init_1 : decode cX3_init 1 = .ok (.invokespecial 1, 3) := by decide +kernel
theorem dX3_init_4 : decode cX3_init 4 = .ok (.aload_n 0, 1) := by decide +kernel
theorem dX3_init_5 : decode cX3_init 5 = .ok (.bipush 84, 2) := by decide +kernel
theorem dX3_init_7 : decode cX3_init 7 = .ok (.newarray .int, 2) := by decide +kernel
theorem dX3_init_9 : decode cX3_init 9 = .ok (.putfield 7, 3) := by decide +kernel
theorem dX3_init_12 : decode cX3_init 12 = .ok (.aload_n 0, 1) := by decide +kernel
theorem dX3_init_13 : decode cX3_init 13 = .ok (.bipush 84, 2) := by decide +kernel
theorem dX3_init_15 : decode cX3_init 15 = .ok (.newarray .int, 2) := by decide +kernel
theorem dX3_init_17 : decode cX3_init 17 = .ok (.putfield 13, 3) := by decide +kernel
theorem dX3_init_20 : decode cX3_init 20 = .ok (.aload_n 0, 1) := by decide +kernel
theorem dX3_init_21 : decode cX3_init 21 = .ok (.bipush 84, 2) := by decide +kernel
theorem dX3_init_23 : decode cX3_init 23 = .ok (.newarray .boolean, 2) := by decide +kernel
theorem dX3_init_25 : decode cX3_init 25 = .ok (.putfield 16, 3) := by decide +kernel
theorem dX3_init_28 : decode cX3_init 28 = .ok (.aload_n 0, 1) := by decide +kernel
theorem dX3_init_29 : decode cX3_init 29 = .ok (.bipush 84, 2) := by decide +kernel
theorem dX3_init_31 : decode cX3_init 31 = .ok (.newarray .boolean, 2) := by decide +kernel
theorem dX3_init_33 : decode cX3_init 33 = .ok (.putfield 20, 3) := by decide +kernel
theorem dX3_init_36 : decode cX3_init 36 = .ok (.aload_n 0, 1) := by decide +kernel
theorem dX3_init_37 : decode cX3_init 37 = .ok (.bipush 7, 2) := by decide +kernel
theorem dX3_init_39 : decode cX3_init 39 = .ok (.newarray .boolean, 2) := by decide +kernel
theorem dX3_init_41 : decode cX3_init 41 = .ok (.putfield 23, 3) := by decide +kernel
theorem dX3_init_44 : decode cX3_init 44 = .ok (.aload_n 0, 1) := by decide +kernel
theorem dX3_init_45 : decode cX3_init 45 = .ok (.bipush 63, 2) := by decide +kernel
theorem dX3_init_47 : decode cX3_init 47 = .ok (.newarray .int, 2) := by decide +kernel
theorem dX3_init_49 : decode cX3_init 49 = .ok (.putfield 26, 3) := by decide +kernel
theorem dX3_init_52 : decode cX3_init 52 = .ok (.aload_n 0, 1) := by decide +kernel
theorem dX3_init_53 : decode cX3_init 53 = .ok (.bipush 24, 2) := by decide +kernel
theorem dX3_init_55 : decode cX3_init 55 = .ok (.newarray .int, 2) := by decide +kernel
theorem dX3_init_57 : decode cX3_init 57 = .ok (.putfield 29, 3) := by decide +kernel
theorem dX3_init_60 : decode cX3_init 60 = .ok (.aload_n 0, 1) := by decide +kernel
theorem dX3_init_61 : decode cX3_init 61 = .ok (.bipush 24, 2) := by decide +kernel
theorem dX3_init_63 : decode cX3_init 63 = .ok (.newarray .int, 2) := by decide +kernel
theorem dX3_init_65 : decode cX3_init 65 = .ok (.putfield 32, 3) := by decide +kernel
theorem dX3_init_68 : decode cX3_init 68 = .ok (.aload_n 0, 1) := by decide +kernel
theorem dX3_init_69 : decode cX3_init 69 = .ok (.bipush 8, 2) := by decide +kernel
theorem dX3_init_71 : decode cX3_init 71 = .ok (.newarray .int, 2) := by decide +kernel
theorem dX3_init_73 : decode cX3_init 73 = .ok (.putfield 35, 3) := by decide +kernel
theorem dX3_init_76 : decode cX3_init 76 = .ok (.aload_n 0, 1) := by decide +kernel
theorem dX3_init_77 : decode cX3_init 77 = .ok (.bipush 7, 2) := by decide +kernel
theorem dX3_init_79 : decode cX3_init 79 = .ok (.iload_n 1, 1) := by decide +kernel
theorem dX3_init_80 : decode cX3_init 80 = .ok (.iconst 1, 1) := by decide +kernel
theorem dX3_init_81 : decode cX3_init 81 = .ok (.if_icmp .ge 7, 3) := by decide +kernel
theorem dX3_init_84 : decode cX3_init 84 = .ok (.iconst 1, 1) := by decide +kernel
theorem dX3_init_85 : decode cX3_init 85 = .ok (.goto 13, 3) := by decide +kernel
theorem dX3_init_88 : decode cX3_init 88 = .ok (.iload_n 1, 1) := by decide +kernel
theorem dX3_init_89 : decode cX3_init 89 = .ok (.iconst 3, 1) := by decide +kernel
theorem dX3_init_90 : decode cX3_init 90 = .ok (.if_icmp .le 7, 3) := by decide +kernel
theorem dX3_init_93 : decode cX3_init 93 = .ok (.iconst 3, 1) := by decide +kernel
theorem dX3_init_94 : decode cX3_init 94 = .ok (.goto 4, 3) := by decide +kernel
theorem dX3_init_97 : decode cX3_init 97 = .ok (.iload_n 1, 1) := by decide +kernel
theorem dX3_init_98 : decode cX3_init 98 = .ok (.imul, 1) := by decide +kernel
theorem dX3_init_99 : decode cX3_init 99 = .ok (.putfield 38, 3) := by decide +kernel
theorem dX3_init_102 : decode cX3_init 102 = .ok (.return_, 1) := by decide +kernel
theorem dX3_create_0 : decode cX3_create 0 = .ok (.iload_n 1, 1) := by decide +kernel
theorem dX3_create_1 : decode cX3_create 1 = .ok (.bipush 8, 2) := by decide +kernel
theorem dX3_create_3 : decode cX3_create 3 = .ok (.invokestatic 67, 3) := by decide +kernel
theorem dX3_create_6 : decode cX3_create 6 = .ok (.ifCond .eq 23, 3) := by decide +kernel
theorem dX3_create_9 : decode cX3_create 9 = .ok (.iload_n 2, 1) := by decide +kernel
theorem dX3_create_10 : decode cX3_create 10 = .ok (.iconst 1, 1) := by decide +kernel
theorem dX3_create_11 : decode cX3_create 11 = .ok (.if_icmp .lt 18, 3) := by decide +kernel
theorem dX3_create_14 : decode cX3_create 14 = .ok (.iload_n 2, 1) := by decide +kernel
theorem dX3_create_15 : decode cX3_create 15 = .ok (.bipush 63, 2) := by decide +kernel
theorem dX3_create_17 : decode cX3_create 17 = .ok (.if_icmp .gt 12, 3) := by decide +kernel
theorem dX3_create_20 : decode cX3_create 20 = .ok (.aload_n 0, 1) := by decide +kernel
theorem dX3_create_21 : decode cX3_create 21 = .ok (.getfield 35, 3) := by decide +kernel
theorem dX3_create_24 : decode cX3_create 24 = .ok (.iload_n 1, 1) := by decide +kernel
theorem dX3_create_25 : decode cX3_create 25 = .ok (.iaload, 1) := by decide +kernel
theorem dX3_create_26 : decode cX3_create 26 = .ok (.ifCond .le 5, 3) := by decide +kernel
theorem dX3_create_29 : decode cX3_create 29 = .ok (.iconst (-1), 1) := by decide +kernel
theorem dX3_create_30 : decode cX3_create 30 = .ok (.ireturn, 1) := by decide +kernel
theorem dX3_create_31 : decode cX3_create 31 = .ok (.aload_n 0, 1) := by decide +kernel
theorem dX3_create_32 : decode cX3_create 32 = .ok (.iload_n 1, 1) := by decide +kernel
theorem dX3_create_33 : decode cX3_create 33 = .ok (.iload_n 2, 1) := by decide +kernel
theorem dX3_create_34 : decode cX3_create 34 = .ok (.invokevirtual 71, 3) := by decide +kernel
theorem dX3_create_37 : decode cX3_create 37 = .ok (.ifCond .eq 10, 3) := by decide +kernel
theorem dX3_create_40 : decode cX3_create 40 = .ok (.aload_n 0, 1) := by decide +kernel
theorem dX3_create_41 : decode cX3_create 41 = .ok (.getfield 35, 3) := by decide +kernel
theorem dX3_create_44 : decode cX3_create 44 = .ok (.iload_n 1, 1) := by decide +kernel
theorem dX3_create_45 : decode cX3_create 45 = .ok (.iaload, 1) := by decide +kernel
theorem dX3_create_46 : decode cX3_create 46 = .ok (.ireturn, 1) := by decide +kernel
theorem dX3_create_47 : decode cX3_create 47 = .ok (.aload_n 0, 1) := by decide +kernel
theorem dX3_create_48 : decode cX3_create 48 = .ok (.iload_n 1, 1) := by decide +kernel
theorem dX3_create_49 : decode cX3_create 49 = .ok (.invokevirtual 74, 3) := by decide +kernel
theorem dX3_create_52 : decode cX3_create 52 = .ok (.istore_n 3, 1) := by decide +kernel
theorem dX3_create_53 : decode cX3_create 53 = .ok (.bipush (-2), 2) := by decide +kernel
theorem dX3_create_55 : decode cX3_create 55 = .ok (.ireturn, 1) := by decide +kernel
theorem dX3_in_0 : decode cX3_in 0 = .ok (.iload_n 0, 1) := by decide +kernel
theorem dX3_in_1 : decode cX3_in 1 = .ok (.ifCond .lt 12, 3) := by decide +kernel
theorem dX3_in_4 : decode cX3_in 4 = .ok (.iload_n 0, 1) := by decide +kernel
theorem dX3_in_5 : decode cX3_in 5 = .ok (.iload_n 1, 1) := by decide +kernel
theorem dX3_in_6 : decode cX3_in 6 = .ok (.if_icmp .ge 7, 3) := by decide +kernel
theorem dX3_in_9 : decode cX3_in 9 = .ok (.iconst 1, 1) := by decide +kernel
theorem dX3_in_10 : decode cX3_in 10 = .ok (.goto 4, 3) := by decide +kernel
theorem dX3_in_13 : decode cX3_in 13 = .ok (.iconst 0, 1) := by decide +kernel
theorem dX3_in_14 : decode cX3_in 14 = .ok (.ireturn, 1) := by decide +kernel
theorem dX3_place_0 : decode cX3_place 0 = .ok (.iconst 0, 1) := by decide +kernel
theorem dX3_place_1 : decode cX3_place 1 = .ok (.istore_n 3, 1) := by decide +kernel
theorem dX3_place_2 : decode cX3_place 2 = .ok (.iload_n 3, 1) := by decide +kernel
theorem dX3_place_3 : decode cX3_place 3 = .ok (.iconst 3, 1) := by decide +kernel
theorem dX3_place_4 : decode cX3_place 4 = .ok (.aload_n 0, 1) := by decide +kernel
theorem dX3_place_5 : decode cX3_place 5 = .ok (.getfield 38, 3) := by decide +kernel
theorem dX3_place_8 : decode cX3_place 8 = .ok (.imul, 1) := by decide +kernel
theorem dX3_place_9 : decode cX3_place 9 = .ok (.if_icmp .ge 27, 3) := by decide +kernel
theorem dX3_place_12 : decode cX3_place 12 = .ok (.aload_n 0, 1) := by decide +kernel
theorem dX3_place_13 : decode cX3_place 13 = .ok (.iload_n 3, 1) := by decide +kernel
theorem dX3_place_14 : decode cX3_place 14 = .ok (.invokevirtual 56, 3) := by decide +kernel
theorem dX3_place_17 : decode cX3_place 17 = .ok (.iload_n 2, 1) := by decide +kernel
theorem dX3_place_18 : decode cX3_place 18 = .ok (.if_icmp .lt 12, 3) := by decide +kernel
theorem dX3_place_21 : decode cX3_place 21 = .ok (.aload_n 0, 1) := by decide +kernel
theorem dX3_place_22 : decode cX3_place 22 = .ok (.iload_n 1, 1) := by decide +kernel
theorem dX3_place_23 : decode cX3_place 23 = .ok (.iload_n 3, 1) := by decide +kernel
theorem dX3_place_24 : decode cX3_place 24 = .ok (.iload_n 2, 1) := by decide +kernel
theorem dX3_place_25 : decode cX3_place 25 = .ok (.invokevirtual 59, 3) := by decide +kernel
theorem dX3_place_28 : decode cX3_place 28 = .ok (.iconst 1, 1) := by decide +kernel
theorem dX3_place_29 : decode cX3_place 29 = .ok (.ireturn, 1) := by decide +kernel
theorem dX3_place_30 : decode cX3_place 30 = .ok (.iinc 3 1, 3) := by decide +kernel
theorem dX3_place_33 : decode cX3_place 33 = .ok (.goto (-31), 3) := by decide +kernel
theorem dX3_place_36 : decode cX3_place 36 = .ok (.iload_n 2, 1) := by decide +kernel
theorem dX3_place_37 : decode cX3_place 37 = .ok (.istore_n 3, 1) := by decide +kernel
theorem dX3_place_38 : decode cX3_place 38 = .ok (.iconst 0, 1) := by decide +kernel
theorem dX3_place_39 : decode cX3_place 39 = .ok (.istore 4, 2) := by decide +kernel
theorem dX3_place_41 : decode cX3_place 41 = .ok (.iload 4, 2) := by decide +kernel
theorem dX3_place_43 : decode cX3_place 43 = .ok (.iconst 3, 1) := by decide +kernel
theorem dX3_place_44 : decode cX3_place 44 = .ok (.if_icmp .ge 62, 3) := by decide +kernel
theorem dX3_place_47 : decode cX3_place 47 = .ok (.iload_n 3, 1) := by decide +kernel
theorem dX3_place_48 : decode cX3_place 48 = .ok (.ifCond .le 58, 3) := by decide +kernel
theorem dX3_place_51 : decode cX3_place 51 = .ok (.aload_n 0, 1) := by decide +kernel
theorem dX3_place_52 : decode cX3_place 52 = .ok (.invokevirtual 63, 3) := by decide +kernel
theorem dX3_place_55 : decode cX3_place 55 = .ok (.istore 5, 2) := by decide +kernel
theorem dX3_place_57 : decode cX3_place 57 = .ok (.aload_n 0, 1) := by decide +kernel
theorem dX3_place_58 : decode cX3_place 58 = .ok (.iload 5, 2) := by decide +kernel
theorem dX3_place_60 : decode cX3_place 60 = .ok (.invokevirtual 56, 3) := by decide +kernel
theorem dX3_place_63 : decode cX3_place 63 = .ok (.iload_n 3, 1) := by decide +kernel
theorem dX3_place_64 : decode cX3_place 64 = .ok (.if_icmp .ge 12, 3) := by decide +kernel
theorem dX3_place_67 : decode cX3_place 67 = .ok (.aload_n 0, 1) := by decide +kernel
theorem dX3_place_68 : decode cX3_place 68 = .ok (.iload 5, 2) := by decide +kernel
theorem dX3_place_70 : decode cX3_place 70 = .ok (.invokevirtual 56, 3) := by decide +kernel
theorem dX3_place_73 : decode cX3_place 73 = .ok (.goto 4, 3) := by decide +kernel
theorem dX3_place_76 : decode cX3_place 76 = .ok (.iload_n 3, 1) := by decide +kernel
theorem dX3_place_77 : decode cX3_place 77 = .ok (.istore 6, 2) := by decide +kernel
theorem dX3_place_79 : decode cX3_place 79 = .ok (.iload 6, 2) := by decide +kernel
theorem dX3_place_81 : decode cX3_place 81 = .ok (.ifCond .ne 5, 3) := by decide +kernel
theorem dX3_place_84 : decode cX3_place 84 = .ok (.iconst 0, 1) := by decide +kernel
theorem dX3_place_85 : decode cX3_place 85 = .ok (.ireturn, 1) := by decide +kernel
theorem dX3_place_86 : decode cX3_place 86 = .ok (.aload_n 0, 1) := by decide +kernel
theorem dX3_place_87 : decode cX3_place 87 = .ok (.iload_n 1, 1) := by decide +kernel
theorem dX3_place_88 : decode cX3_place 88 = .ok (.iload 5, 2) := by decide +kernel
theorem dX3_place_90 : decode cX3_place 90 = .ok (.iload 6, 2) := by decide +kernel
theorem dX3_place_92 : decode cX3_place 92 = .ok (.invokevirtual 59, 3) := by decide +kernel
theorem dX3_place_95 : decode cX3_place 95 = .ok (.iload_n 3, 1) := by decide +kernel
theorem dX3_place_96 : decode cX3_place 96 = .ok (.iload 6, 2) := by decide +kernel
theorem dX3_place_98 : decode cX3_place 98 = .ok (.isub, 1) := by decide +kernel
theorem dX3_place_99 : decode cX3_place 99 = .ok (.istore_n 3, 1) := by decide +kernel
theorem dX3_place_100 : decode cX3_place 100 = .ok (.iinc 4 1, 3) := by decide +kernel
theorem dX3_place_103 : decode cX3_place 103 = .ok (.goto (-62), 3) := by decide +kernel
theorem dX3_place_106 : decode cX3_place 106 = .ok (.iload_n 3, 1) := by decide +kernel
theorem dX3_place_107 : decode cX3_place 107 = .ok (.ifCond .ne 7, 3) := by decide +kernel
theorem dX3_place_110 : decode cX3_place 110 = .ok (.iconst 1, 1) := by decide +kernel
theorem dX3_place_111 : decode cX3_place 111 = .ok (.goto 4, 3) := by decide +kernel
theorem dX3_place_114 : decode cX3_place 114 = .ok (.iconst 0, 1) := by decide +kernel
theorem dX3_place_115 : decode cX3_place 115 = .ok (.ireturn, 1) := by decide +kernel
theorem dX3_run_0 : decode cX3_run 0 = .ok (.aload_n 0, 1) := by decide +kernel
theorem dX3_run_1 : decode cX3_run 1 = .ok (.getfield 26, 3) := by decide +kernel
theorem dX3_run_4 : decode cX3_run 4 = .ok (.iload_n 1, 1) := by decide +kernel
theorem dX3_run_5 : decode cX3_run 5 = .ok (.iaload, 1) := by decide +kernel
theorem dX3_run_6 : decode cX3_run 6 = .ok (.ifCond .ne 18, 3) := by decide +kernel
theorem dX3_run_9 : decode cX3_run 9 = .ok (.iload_n 1, 1) := by decide +kernel
theorem dX3_run_10 : decode cX3_run 10 = .ok (.ifCond .le 16, 3) := by decide +kernel
theorem dX3_run_13 : decode cX3_run 13 = .ok (.aload_n 0, 1) := by decide +kernel
theorem dX3_run_14 : decode cX3_run 14 = .ok (.getfield 26, 3) := by decide +kernel
theorem dX3_run_17 : decode cX3_run 17 = .ok (.iload_n 1, 1) := by decide +kernel
theorem dX3_run_18 : decode cX3_run 18 = .ok (.iconst 1, 1) := by decide +kernel
theorem dX3_run_19 : decode cX3_run 19 = .ok (.isub, 1) := by decide +kernel
theorem dX3_run_20 : decode cX3_run 20 = .ok (.iaload, 1) := by decide +kernel
theorem dX3_run_21 : decode cX3_run 21 = .ok (.ifCond .ne 5, 3) := by decide +kernel
theorem dX3_run_24 : decode cX3_run 24 = .ok (.iconst 0, 1) := by decide +kernel
theorem dX3_run_25 : decode cX3_run 25 = .ok (.ireturn, 1) := by decide +kernel
theorem dX3_run_26 : decode cX3_run 26 = .ok (.iconst 0, 1) := by decide +kernel
theorem dX3_run_27 : decode cX3_run 27 = .ok (.istore_n 2, 1) := by decide +kernel
theorem dX3_run_28 : decode cX3_run 28 = .ok (.iload_n 1, 1) := by decide +kernel
theorem dX3_run_29 : decode cX3_run 29 = .ok (.iload_n 2, 1) := by decide +kernel
theorem dX3_run_30 : decode cX3_run 30 = .ok (.iadd, 1) := by decide +kernel
theorem dX3_run_31 : decode cX3_run 31 = .ok (.iconst 3, 1) := by decide +kernel
theorem dX3_run_32 : decode cX3_run 32 = .ok (.aload_n 0, 1) := by decide +kernel
theorem dX3_run_33 : decode cX3_run 33 = .ok (.getfield 38, 3) := by decide +kernel
theorem dX3_run_36 : decode cX3_run 36 = .ok (.imul, 1) := by decide +kernel
theorem dX3_run_37 : decode cX3_run 37 = .ok (.if_icmp .ge 20, 3) := by decide +kernel
theorem dX3_run_40 : decode cX3_run 40 = .ok (.aload_n 0, 1) := by decide +kernel
theorem dX3_run_41 : decode cX3_run 41 = .ok (.getfield 26, 3) := by decide +kernel
theorem dX3_run_44 : decode cX3_run 44 = .ok (.iload_n 1, 1) := by decide +kernel
theorem dX3_run_45 : decode cX3_run 45 = .ok (.iload_n 2, 1) := by decide +kernel
theorem dX3_run_46 : decode cX3_run 46 = .ok (.iadd, 1) := by decide +kernel
theorem dX3_run_47 : decode cX3_run 47 = .ok (.iaload, 1) := by decide +kernel
theorem dX3_run_48 : decode cX3_run 48 = .ok (.ifCond .ne 9, 3) := by decide +kernel
theorem dX3_run_51 : decode cX3_run 51 = .ok (.iinc 2 1, 3) := by decide +kernel
theorem dX3_run_54 : decode cX3_run 54 = .ok (.goto (-26), 3) := by decide +kernel
theorem dX3_run_57 : decode cX3_run 57 = .ok (.iload_n 2, 1) := by decide +kernel
theorem dX3_run_58 : decode cX3_run 58 = .ok (.ireturn, 1) := by decide +kernel
theorem dX3_give_0 : decode cX3_give 0 = .ok (.iload_n 2, 1) := by decide +kernel
theorem dX3_give_1 : decode cX3_give 1 = .ok (.istore 4, 2) := by decide +kernel
theorem dX3_give_3 : decode cX3_give 3 = .ok (.iload 4, 2) := by decide +kernel
theorem dX3_give_5 : decode cX3_give 5 = .ok (.iload_n 2, 1) := by decide +kernel
theorem dX3_give_6 : decode cX3_give 6 = .ok (.iload_n 3, 1) := by decide +kernel
theorem dX3_give_7 : decode cX3_give 7 = .ok (.iadd, 1) := by decide +kernel
theorem dX3_give_8 : decode cX3_give 8 = .ok (.if_icmp .ge 19, 3) := by decide +kernel
theorem dX3_give_11 : decode cX3_give 11 = .ok (.aload_n 0, 1) := by decide +kernel
theorem dX3_give_12 : decode cX3_give 12 = .ok (.getfield 26, 3) := by decide +kernel
theorem dX3_give_15 : decode cX3_give 15 = .ok (.iload 4, 2) := by decide +kernel
theorem dX3_give_17 : decode cX3_give 17 = .ok (.iconst 1, 1) := by decide +kernel
theorem dX3_give_18 : decode cX3_give 18 = .ok (.iload_n 1, 1) := by decide +kernel
theorem dX3_give_19 : decode cX3_give 19 = .ok (.iadd, 1) := by decide +kernel
theorem dX3_give_20 : decode cX3_give 20 = .ok (.iastore, 1) := by decide +kernel
theorem dX3_give_21 : decode cX3_give 21 = .ok (.iinc 4 1, 3) := by decide +kernel
theorem dX3_give_24 : decode cX3_give 24 = .ok (.goto (-21), 3) := by decide +kernel
theorem dX3_give_27 : decode cX3_give 27 = .ok (.aload_n 0, 1) := by decide +kernel
theorem dX3_give_28 : decode cX3_give 28 = .ok (.getfield 29, 3) := by decide +kernel
theorem dX3_give_31 : decode cX3_give 31 = .ok (.iconst 3, 1) := by decide +kernel
theorem dX3_give_32 : decode cX3_give 32 = .ok (.iload_n 1, 1) := by decide +kernel
theorem dX3_give_33 : decode cX3_give 33 = .ok (.imul, 1) := by decide +kernel
theorem dX3_give_34 : decode cX3_give 34 = .ok (.aload_n 0, 1) := by decide +kernel
theorem dX3_give_35 : decode cX3_give 35 = .ok (.getfield 35, 3) := by decide +kernel
theorem dX3_give_38 : decode cX3_give 38 = .ok (.iload_n 1, 1) := by decide +kernel
theorem dX3_give_39 : decode cX3_give 39 = .ok (.iaload, 1) := by decide +kernel
theorem dX3_give_40 : decode cX3_give 40 = .ok (.iadd, 1) := by decide +kernel
theorem dX3_give_41 : decode cX3_give 41 = .ok (.iload_n 2, 1) := by decide +kernel
theorem dX3_give_42 : decode cX3_give 42 = .ok (.iastore, 1) := by decide +kernel
theorem dX3_give_43 : decode cX3_give 43 = .ok (.aload_n 0, 1) := by decide +kernel
theorem dX3_give_44 : decode cX3_give 44 = .ok (.getfield 32, 3) := by decide +kernel
theorem dX3_give_47 : decode cX3_give 47 = .ok (.iconst 3, 1) := by decide +kernel
theorem dX3_give_48 : decode cX3_give 48 = .ok (.iload_n 1, 1) := by decide +kernel
theorem dX3_give_49 : decode cX3_give 49 = .ok (.imul, 1) := by decide +kernel
theorem dX3_give_50 : decode cX3_give 50 = .ok (.aload_n 0, 1) := by decide +kernel
theorem dX3_give_51 : decode cX3_give 51 = .ok (.getfield 35, 3) := by decide +kernel
theorem dX3_give_54 : decode cX3_give 54 = .ok (.iload_n 1, 1) := by decide +kernel
theorem dX3_give_55 : decode cX3_give 55 = .ok (.iaload, 1) := by decide +kernel
theorem dX3_give_56 : decode cX3_give 56 = .ok (.iadd, 1) := by decide +kernel
theorem dX3_give_57 : decode cX3_give 57 = .ok (.iload_n 3, 1) := by decide +kernel
theorem dX3_give_58 : decode cX3_give 58 = .ok (.iastore, 1) := by decide +kernel
theorem dX3_give_59 : decode cX3_give 59 = .ok (.aload_n 0, 1) := by decide +kernel
theorem dX3_give_60 : decode cX3_give 60 = .ok (.getfield 35, 3) := by decide +kernel
theorem dX3_give_63 : decode cX3_give 63 = .ok (.iload_n 1, 1) := by decide +kernel
theorem dX3_give_64 : decode cX3_give 64 = .ok (.dup2, 1) := by decide +kernel
theorem dX3_give_65 : decode cX3_give 65 = .ok (.iaload, 1) := by decide +kernel
theorem dX3_give_66 : decode cX3_give 66 = .ok (.iconst 1, 1) := by decide +kernel
theorem dX3_give_67 : decode cX3_give 67 = .ok (.iadd, 1) := by decide +kernel
theorem dX3_give_68 : decode cX3_give 68 = .ok (.iastore, 1) := by decide +kernel
theorem dX3_give_69 : decode cX3_give 69 = .ok (.return_, 1) := by decide +kernel
theorem dX3_longest_0 : decode cX3_longest 0 = .ok (.iconst 0, 1) := by decide +kernel
theorem dX3_longest_1 : decode cX3_longest 1 = .ok (.istore_n 1, 1) := by decide +kernel
theorem dX3_longest_2 : decode cX3_longest 2 = .ok (.iconst 0, 1) := by decide +kernel
theorem dX3_longest_3 : decode cX3_longest 3 = .ok (.istore_n 2, 1) := by decide +kernel
theorem dX3_longest_4 : decode cX3_longest 4 = .ok (.iload_n 2, 1) := by decide +kernel
theorem dX3_longest_5 : decode cX3_longest 5 = .ok (.iconst 3, 1) := by decide +kernel
theorem dX3_longest_6 : decode cX3_longest 6 = .ok (.aload_n 0, 1) := by decide +kernel
theorem dX3_longest_7 : decode cX3_longest 7 = .ok (.getfield 38, 3) := by decide +kernel
theorem dX3_longest_10 : decode cX3_longest 10 = .ok (.imul, 1) := by decide +kernel
theorem dX3_longest_11 : decode cX3_longest 11 = .ok (.if_icmp .ge 24, 3) := by decide +kernel
theorem dX3_longest_14 : decode cX3_longest 14 = .ok (.aload_n 0, 1) := by decide +kernel
theorem dX3_longest_15 : decode cX3_longest 15 = .ok (.iload_n 2, 1) := by decide +kernel
theorem dX3_longest_16 : decode cX3_longest 16 = .ok (.invokevirtual 56, 3) := by decide +kernel
theorem dX3_longest_19 : decode cX3_longest 19 = .ok (.aload_n 0, 1) := by decide +kernel
theorem dX3_longest_20 : decode cX3_longest 20 = .ok (.iload_n 1, 1) := by decide +kernel
theorem dX3_longest_21 : decode cX3_longest 21 = .ok (.invokevirtual 56, 3) := by decide +kernel
theorem dX3_longest_24 : decode cX3_longest 24 = .ok (.if_icmp .le 5, 3) := by decide +kernel
theorem dX3_longest_27 : decode cX3_longest 27 = .ok (.iload_n 2, 1) := by decide +kernel
theorem dX3_longest_28 : decode cX3_longest 28 = .ok (.istore_n 1, 1) := by decide +kernel
theorem dX3_longest_29 : decode cX3_longest 29 = .ok (.iinc 2 1, 3) := by decide +kernel
theorem dX3_longest_32 : decode cX3_longest 32 = .ok (.goto (-28), 3) := by decide +kernel
theorem dX3_longest_35 : decode cX3_longest 35 = .ok (.iload_n 1, 1) := by decide +kernel
theorem dX3_longest_36 : decode cX3_longest 36 = .ok (.ireturn, 1) := by decide +kernel
theorem dX3_remove_0 : decode cX3_remove 0 = .ok (.iload_n 1, 1) := by decide +kernel
theorem dX3_remove_1 : decode cX3_remove 1 = .ok (.bipush 8, 2) := by decide +kernel
theorem dX3_remove_3 : decode cX3_remove 3 = .ok (.invokestatic 67, 3) := by decide +kernel
theorem dX3_remove_6 : decode cX3_remove 6 = .ok (.ifCond .eq 12, 3) := by decide +kernel
theorem dX3_remove_9 : decode cX3_remove 9 = .ok (.aload_n 0, 1) := by decide +kernel
theorem dX3_remove_10 : decode cX3_remove 10 = .ok (.getfield 35, 3) := by decide +kernel
theorem dX3_remove_13 : decode cX3_remove 13 = .ok (.iload_n 1, 1) := by decide +kernel
theorem dX3_remove_14 : decode cX3_remove 14 = .ok (.iaload, 1) := by decide +kernel
theorem dX3_remove_15 : decode cX3_remove 15 = .ok (.ifCond .ne 5, 3) := by decide +kernel
theorem dX3_remove_18 : decode cX3_remove 18 = .ok (.iconst (-1), 1) := by decide +kernel
theorem dX3_remove_19 : decode cX3_remove 19 = .ok (.ireturn, 1) := by decide +kernel
theorem dX3_remove_20 : decode cX3_remove 20 = .ok (.iconst 0, 1) := by decide +kernel
theorem dX3_remove_21 : decode cX3_remove 21 = .ok (.istore_n 2, 1) := by decide +kernel
theorem dX3_remove_22 : decode cX3_remove 22 = .ok (.iload_n 2, 1) := by decide +kernel
theorem dX3_remove_23 : decode cX3_remove 23 = .ok (.bipush 63, 2) := by decide +kernel
theorem dX3_remove_25 : decode cX3_remove 25 = .ok (.if_icmp .ge 28, 3) := by decide +kernel
theorem dX3_remove_28 : decode cX3_remove 28 = .ok (.aload_n 0, 1) := by decide +kernel
theorem dX3_remove_29 : decode cX3_remove 29 = .ok (.getfield 26, 3) := by decide +kernel
theorem dX3_remove_32 : decode cX3_remove 32 = .ok (.iload_n 2, 1) := by decide +kernel
theorem dX3_remove_33 : decode cX3_remove 33 = .ok (.iaload, 1) := by decide +kernel
theorem dX3_remove_34 : decode cX3_remove 34 = .ok (.iconst 1, 1) := by decide +kernel
theorem dX3_remove_35 : decode cX3_remove 35 = .ok (.iload_n 1, 1) := by decide +kernel
theorem dX3_remove_36 : decode cX3_remove 36 = .ok (.iadd, 1) := by decide +kernel
theorem dX3_remove_37 : decode cX3_remove 37 = .ok (.if_icmp .ne 10, 3) := by decide +kernel
theorem dX3_remove_40 : decode cX3_remove 40 = .ok (.aload_n 0, 1) := by decide +kernel
theorem dX3_remove_41 : decode cX3_remove 41 = .ok (.getfield 26, 3) := by decide +kernel
theorem dX3_remove_44 : decode cX3_remove 44 = .ok (.iload_n 2, 1) := by decide +kernel
theorem dX3_remove_45 : decode cX3_remove 45 = .ok (.iconst 0, 1) := by decide +kernel
theorem dX3_remove_46 : decode cX3_remove 46 = .ok (.iastore, 1) := by decide +kernel
theorem dX3_remove_47 : decode cX3_remove 47 = .ok (.iinc 2 1, 3) := by decide +kernel
theorem dX3_remove_50 : decode cX3_remove 50 = .ok (.goto (-28), 3) := by decide +kernel
theorem dX3_remove_53 : decode cX3_remove 53 = .ok (.aload_n 0, 1) := by decide +kernel
theorem dX3_remove_54 : decode cX3_remove 54 = .ok (.getfield 35, 3) := by decide +kernel
theorem dX3_remove_57 : decode cX3_remove 57 = .ok (.iload_n 1, 1) := by decide +kernel
theorem dX3_remove_58 : decode cX3_remove 58 = .ok (.iconst 0, 1) := by decide +kernel
theorem dX3_remove_59 : decode cX3_remove 59 = .ok (.iastore, 1) := by decide +kernel
theorem dX3_remove_60 : decode cX3_remove 60 = .ok (.iconst 0, 1) := by decide +kernel
theorem dX3_remove_61 : decode cX3_remove 61 = .ok (.ireturn, 1) := by decide +kernel
theorem dX3_write_0 : decode cX3_write 0 = .ok (.aload_n 0, 1) := by decide +kernel
theorem dX3_write_1 : decode cX3_write 1 = .ok (.iload_n 1, 1) := by decide +kernel
theorem dX3_write_2 : decode cX3_write 2 = .ok (.iload_n 2, 1) := by decide +kernel
theorem dX3_write_3 : decode cX3_write 3 = .ok (.invokevirtual 77, 3) := by decide +kernel
theorem dX3_write_6 : decode cX3_write 6 = .ok (.istore 5, 2) := by decide +kernel
theorem dX3_write_8 : decode cX3_write 8 = .ok (.iload 5, 2) := by decide +kernel
theorem dX3_write_10 : decode cX3_write 10 = .ok (.ifCond .ge 5, 3) := by decide +kernel
theorem dX3_write_13 : decode cX3_write 13 = .ok (.iconst (-1), 1) := by decide +kernel
theorem dX3_write_14 : decode cX3_write 14 = .ok (.ireturn, 1) := by decide +kernel
theorem dX3_write_15 : decode cX3_write 15 = .ok (.iload 5, 2) := by decide +kernel
theorem dX3_write_17 : decode cX3_write 17 = .ok (.iconst 3, 1) := by decide +kernel
theorem dX3_write_18 : decode cX3_write 18 = .ok (.idiv, 1) := by decide +kernel
theorem dX3_write_19 : decode cX3_write 19 = .ok (.istore 6, 2) := by decide +kernel
theorem dX3_write_21 : decode cX3_write 21 = .ok (.aload_n 0, 1) := by decide +kernel
theorem dX3_write_22 : decode cX3_write 22 = .ok (.iload 6, 2) := by decide +kernel
theorem dX3_write_24 : decode cX3_write 24 = .ok (.invokevirtual 53, 3) := by decide +kernel
theorem dX3_write_27 : decode cX3_write 27 = .ok (.ifCond .eq 6, 3) := by decide +kernel
theorem dX3_write_30 : decode cX3_write 30 = .ok (.bipush (-3), 2) := by decide +kernel
theorem dX3_write_32 : decode cX3_write 32 = .ok (.ireturn, 1) := by decide +kernel
theorem dX3_write_33 : decode cX3_write 33 = .ok (.aload_n 0, 1) := by decide +kernel
theorem dX3_write_34 : decode cX3_write 34 = .ok (.iload 6, 2) := by decide +kernel
theorem dX3_write_36 : decode cX3_write 36 = .ok (.invokevirtual 81, 3) := by decide +kernel
theorem dX3_write_39 : decode cX3_write 39 = .ok (.istore 7, 2) := by decide +kernel
theorem dX3_write_41 : decode cX3_write 41 = .ok (.iconst 4, 1) := by decide +kernel
theorem dX3_write_42 : decode cX3_write 42 = .ok (.iload 6, 2) := by decide +kernel
theorem dX3_write_44 : decode cX3_write 44 = .ok (.imul, 1) := by decide +kernel
theorem dX3_write_45 : decode cX3_write 45 = .ok (.iload 5, 2) := by decide +kernel
theorem dX3_write_47 : decode cX3_write 47 = .ok (.iconst 3, 1) := by decide +kernel
theorem dX3_write_48 : decode cX3_write 48 = .ok (.irem, 1) := by decide +kernel
theorem dX3_write_49 : decode cX3_write 49 = .ok (.iadd, 1) := by decide +kernel
theorem dX3_write_50 : decode cX3_write 50 = .ok (.istore 8, 2) := by decide +kernel
theorem dX3_write_52 : decode cX3_write 52 = .ok (.iload 4, 2) := by decide +kernel
theorem dX3_write_54 : decode cX3_write 54 = .ok (.ifCond .eq 25, 3) := by decide +kernel
theorem dX3_write_57 : decode cX3_write 57 = .ok (.iload 4, 2) := by decide +kernel
theorem dX3_write_59 : decode cX3_write 59 = .ok (.iconst 1, 1) := by decide +kernel
theorem dX3_write_60 : decode cX3_write 60 = .ok (.if_icmp .eq 19, 3) := by decide +kernel
theorem dX3_write_63 : decode cX3_write 63 = .ok (.iload 4, 2) := by decide +kernel
theorem dX3_write_65 : decode cX3_write 65 = .ok (.iconst 2, 1) := by decide +kernel
theorem dX3_write_66 : decode cX3_write 66 = .ok (.if_icmp .ne 17, 3) := by decide +kernel
theorem dX3_write_69 : decode cX3_write 69 = .ok (.aload_n 0, 1) := by decide +kernel
theorem dX3_write_70 : decode cX3_write 70 = .ok (.getfield 16, 3) := by decide +kernel
theorem dX3_write_73 : decode cX3_write 73 = .ok (.iload 8, 2) := by decide +kernel
theorem dX3_write_75 : decode cX3_write 75 = .ok (.baload, 1) := by decide +kernel
theorem dX3_write_76 : decode cX3_write 76 = .ok (.ifCond .eq 7, 3) := by decide +kernel
theorem dX3_write_79 : decode cX3_write 79 = .ok (.iconst 1, 1) := by decide +kernel
theorem dX3_write_80 : decode cX3_write 80 = .ok (.goto 4, 3) := by decide +kernel
theorem dX3_write_83 : decode cX3_write 83 = .ok (.iconst 0, 1) := by decide +kernel
theorem dX3_write_84 : decode cX3_write 84 = .ok (.istore 9, 2) := by decide +kernel
theorem dX3_write_86 : decode cX3_write 86 = .ok (.iload 9, 2) := by decide +kernel
theorem dX3_write_88 : decode cX3_write 88 = .ok (.ifCond .ne 53, 3) := by decide +kernel
theorem dX3_write_91 : decode cX3_write 91 = .ok (.aload_n 0, 1) := by decide +kernel
theorem dX3_write_92 : decode cX3_write 92 = .ok (.iload 8, 2) := by decide +kernel
theorem dX3_write_94 : decode cX3_write 94 = .ok (.iload_n 3, 1) := by decide +kernel
theorem dX3_write_95 : decode cX3_write 95 = .ok (.invokevirtual 84, 3) := by decide +kernel
theorem dX3_write_98 : decode cX3_write 98 = .ok (.aload_n 0, 1) := by decide +kernel
theorem dX3_write_99 : decode cX3_write 99 = .ok (.iconst 4, 1) := by decide +kernel
theorem dX3_write_100 : decode cX3_write 100 = .ok (.iload 6, 2) := by decide +kernel
theorem dX3_write_102 : decode cX3_write 102 = .ok (.imul, 1) := by decide +kernel
theorem dX3_write_103 : decode cX3_write 103 = .ok (.iconst 3, 1) := by decide +kernel
theorem dX3_write_104 : decode cX3_write 104 = .ok (.iadd, 1) := by decide +kernel
theorem dX3_write_105 : decode cX3_write 105 = .ok (.aload_n 0, 1) := by decide +kernel
theorem dX3_write_106 : decode cX3_write 106 = .ok (.getfield 7, 3) := by decide +kernel
theorem dX3_write_109 : decode cX3_write 109 = .ok (.iconst 4, 1) := by decide +kernel
theorem dX3_write_110 : decode cX3_write 110 = .ok (.iload 6, 2) := by decide +kernel
theorem dX3_write_112 : decode cX3_write 112 = .ok (.imul, 1) := by decide +kernel
theorem dX3_write_113 : decode cX3_write 113 = .ok (.iaload, 1) := by decide +kernel
theorem dX3_write_114 : decode cX3_write 114 = .ok (.aload_n 0, 1) := by decide +kernel
theorem dX3_write_115 : decode cX3_write 115 = .ok (.getfield 7, 3) := by decide +kernel
theorem dX3_write_118 : decode cX3_write 118 = .ok (.iconst 4, 1) := by decide +kernel
theorem dX3_write_119 : decode cX3_write 119 = .ok (.iload 6, 2) := by decide +kernel
theorem dX3_write_121 : decode cX3_write 121 = .ok (.imul, 1) := by decide +kernel
theorem dX3_write_122 : decode cX3_write 122 = .ok (.iconst 1, 1) := by decide +kernel
theorem dX3_write_123 : decode cX3_write 123 = .ok (.iadd, 1) := by decide +kernel
theorem dX3_write_124 : decode cX3_write 124 = .ok (.iaload, 1) := by decide +kernel
theorem dX3_write_125 : decode cX3_write 125 = .ok (.ixor, 1) := by decide +kernel
theorem dX3_write_126 : decode cX3_write 126 = .ok (.aload_n 0, 1) := by decide +kernel
theorem dX3_write_127 : decode cX3_write 127 = .ok (.getfield 7, 3) := by decide +kernel
theorem dX3_write_130 : decode cX3_write 130 = .ok (.iconst 4, 1) := by decide +kernel
theorem dX3_write_131 : decode cX3_write 131 = .ok (.iload 6, 2) := by decide +kernel
theorem dX3_write_133 : decode cX3_write 133 = .ok (.imul, 1) := by decide +kernel
theorem dX3_write_134 : decode cX3_write 134 = .ok (.iconst 2, 1) := by decide +kernel
theorem dX3_write_135 : decode cX3_write 135 = .ok (.iadd, 1) := by decide +kernel
theorem dX3_write_136 : decode cX3_write 136 = .ok (.iaload, 1) := by decide +kernel
theorem dX3_write_137 : decode cX3_write 137 = .ok (.ixor, 1) := by decide +kernel
theorem dX3_write_138 : decode cX3_write 138 = .ok (.invokevirtual 84, 3) := by decide +kernel
theorem dX3_write_141 : decode cX3_write 141 = .ok (.iload 4, 2) := by decide +kernel
theorem dX3_write_143 : decode cX3_write 143 = .ok (.iconst 4, 1) := by decide +kernel
theorem dX3_write_144 : decode cX3_write 144 = .ok (.invokestatic 67, 3) := by decide +kernel
theorem dX3_write_147 : decode cX3_write 147 = .ok (.ifCond .eq 8, 3) := by decide +kernel
theorem dX3_write_150 : decode cX3_write 150 = .ok (.bipush (-4), 2) := by decide +kernel
theorem dX3_write_152 : decode cX3_write 152 = .ok (.goto 4, 3) := by decide +kernel
theorem dX3_write_155 : decode cX3_write 155 = .ok (.iconst 0, 1) := by decide +kernel
theorem dX3_write_156 : decode cX3_write 156 = .ok (.ireturn, 1) := by decide +kernel
theorem dX3_block_0 : decode cX3_block 0 = .ok (.iload_n 1, 1) := by decide +kernel
theorem dX3_block_1 : decode cX3_block 1 = .ok (.bipush 8, 2) := by decide +kernel
theorem dX3_block_3 : decode cX3_block 3 = .ok (.invokestatic 67, 3) := by decide +kernel
theorem dX3_block_6 : decode cX3_block 6 = .ok (.ifCond .eq 7, 3) := by decide +kernel
theorem dX3_block_9 : decode cX3_block 9 = .ok (.iload_n 2, 1) := by decide +kernel
theorem dX3_block_10 : decode cX3_block 10 = .ok (.ifCond .ge 5, 3) := by decide +kernel
theorem dX3_block_13 : decode cX3_block 13 = .ok (.iconst (-1), 1) := by decide +kernel
theorem dX3_block_14 : decode cX3_block 14 = .ok (.ireturn, 1) := by decide +kernel
theorem dX3_block_15 : decode cX3_block 15 = .ok (.iload_n 2, 1) := by decide +kernel
theorem dX3_block_16 : decode cX3_block 16 = .ok (.istore_n 3, 1) := by decide +kernel
theorem dX3_block_17 : decode cX3_block 17 = .ok (.iconst 0, 1) := by decide +kernel
theorem dX3_block_18 : decode cX3_block 18 = .ok (.istore 4, 2) := by decide +kernel
theorem dX3_block_20 : decode cX3_block 20 = .ok (.iload 4, 2) := by decide +kernel
theorem dX3_block_22 : decode cX3_block 22 = .ok (.aload_n 0, 1) := by decide +kernel
theorem dX3_block_23 : decode cX3_block 23 = .ok (.getfield 35, 3) := by decide +kernel
theorem dX3_block_26 : decode cX3_block 26 = .ok (.iload_n 1, 1) := by decide +kernel
theorem dX3_block_27 : decode cX3_block 27 = .ok (.iaload, 1) := by decide +kernel
theorem dX3_block_28 : decode cX3_block 28 = .ok (.if_icmp .ge 52, 3) := by decide +kernel
theorem dX3_block_31 : decode cX3_block 31 = .ok (.iload_n 3, 1) := by decide +kernel
theorem dX3_block_32 : decode cX3_block 32 = .ok (.aload_n 0, 1) := by decide +kernel
theorem dX3_block_33 : decode cX3_block 33 = .ok (.getfield 32, 3) := by decide +kernel
theorem dX3_block_36 : decode cX3_block 36 = .ok (.iconst 3, 1) := by decide +kernel
theorem dX3_block_37 : decode cX3_block 37 = .ok (.iload_n 1, 1) := by decide +kernel
theorem dX3_block_38 : decode cX3_block 38 = .ok (.imul, 1) := by decide +kernel
theorem dX3_block_39 : decode cX3_block 39 = .ok (.iload 4, 2) := by decide +kernel
theorem dX3_block_41 : decode cX3_block 41 = .ok (.iadd, 1) := by decide +kernel
theorem dX3_block_42 : decode cX3_block 42 = .ok (.iaload, 1) := by decide +kernel
theorem dX3_block_43 : decode cX3_block 43 = .ok (.if_icmp .ge 17, 3) := by decide +kernel
theorem dX3_block_46 : decode cX3_block 46 = .ok (.aload_n 0, 1) := by decide +kernel
theorem dX3_block_47 : decode cX3_block 47 = .ok (.getfield 29, 3) := by decide +kernel
theorem dX3_block_50 : decode cX3_block 50 = .ok (.iconst 3, 1) := by decide +kernel
theorem dX3_block_51 : decode cX3_block 51 = .ok (.iload_n 1, 1) := by decide +kernel
theorem dX3_block_52 : decode cX3_block 52 = .ok (.imul, 1) := by decide +kernel
theorem dX3_block_53 : decode cX3_block 53 = .ok (.iload 4, 2) := by decide +kernel
theorem dX3_block_55 : decode cX3_block 55 = .ok (.iadd, 1) := by decide +kernel
theorem dX3_block_56 : decode cX3_block 56 = .ok (.iaload, 1) := by decide +kernel
theorem dX3_block_57 : decode cX3_block 57 = .ok (.iload_n 3, 1) := by decide +kernel
theorem dX3_block_58 : decode cX3_block 58 = .ok (.iadd, 1) := by decide +kernel
theorem dX3_block_59 : decode cX3_block 59 = .ok (.ireturn, 1) := by decide +kernel
theorem dX3_block_60 : decode cX3_block 60 = .ok (.iload_n 3, 1) := by decide +kernel
theorem dX3_block_61 : decode cX3_block 61 = .ok (.aload_n 0, 1) := by decide +kernel
theorem dX3_block_62 : decode cX3_block 62 = .ok (.getfield 32, 3) := by decide +kernel
theorem dX3_block_65 : decode cX3_block 65 = .ok (.iconst 3, 1) := by decide +kernel
theorem dX3_block_66 : decode cX3_block 66 = .ok (.iload_n 1, 1) := by decide +kernel
theorem dX3_block_67 : decode cX3_block 67 = .ok (.imul, 1) := by decide +kernel
theorem dX3_block_68 : decode cX3_block 68 = .ok (.iload 4, 2) := by decide +kernel
theorem dX3_block_70 : decode cX3_block 70 = .ok (.iadd, 1) := by decide +kernel
theorem dX3_block_71 : decode cX3_block 71 = .ok (.iaload, 1) := by decide +kernel
theorem dX3_block_72 : decode cX3_block 72 = .ok (.isub, 1) := by decide +kernel
theorem dX3_block_73 : decode cX3_block 73 = .ok (.istore_n 3, 1) := by decide +kernel
theorem dX3_block_74 : decode cX3_block 74 = .ok (.iinc 4 1, 3) := by decide +kernel
theorem dX3_block_77 : decode cX3_block 77 = .ok (.goto (-57), 3) := by decide +kernel
theorem dX3_block_80 : decode cX3_block 80 = .ok (.iconst (-1), 1) := by decide +kernel
theorem dX3_block_81 : decode cX3_block 81 = .ok (.ireturn, 1) := by decide +kernel
theorem dX3_broken_0 : decode cX3_broken 0 = .ok (.iconst 0, 1) := by decide +kernel
theorem dX3_broken_1 : decode cX3_broken 1 = .ok (.istore_n 2, 1) := by decide +kernel
theorem dX3_broken_2 : decode cX3_broken 2 = .ok (.iconst 4, 1) := by decide +kernel
theorem dX3_broken_3 : decode cX3_broken 3 = .ok (.iload_n 1, 1) := by decide +kernel
theorem dX3_broken_4 : decode cX3_broken 4 = .ok (.imul, 1) := by decide +kernel
theorem dX3_broken_5 : decode cX3_broken 5 = .ok (.istore_n 3, 1) := by decide +kernel
theorem dX3_broken_6 : decode cX3_broken 6 = .ok (.iload_n 3, 1) := by decide +kernel
theorem dX3_broken_7 : decode cX3_broken 7 = .ok (.iconst 4, 1) := by decide +kernel
theorem dX3_broken_8 : decode cX3_broken 8 = .ok (.iload_n 1, 1) := by decide +kernel
theorem dX3_broken_9 : decode cX3_broken 9 = .ok (.imul, 1) := by decide +kernel
theorem dX3_broken_10 : decode cX3_broken 10 = .ok (.iconst 4, 1) := by decide +kernel
theorem dX3_broken_11 : decode cX3_broken 11 = .ok (.iadd, 1) := by decide +kernel
theorem dX3_broken_12 : decode cX3_broken 12 = .ok (.if_icmp .ge 29, 3) := by decide +kernel
theorem dX3_broken_15 : decode cX3_broken 15 = .ok (.aload_n 0, 1) := by decide +kernel
theorem dX3_broken_16 : decode cX3_broken 16 = .ok (.getfield 16, 3) := by decide +kernel
theorem dX3_broken_19 : decode cX3_broken 19 = .ok (.iload_n 3, 1) := by decide +kernel
theorem dX3_broken_20 : decode cX3_broken 20 = .ok (.baload, 1) := by decide +kernel
theorem dX3_broken_21 : decode cX3_broken 21 = .ok (.ifCond .ne 11, 3) := by decide +kernel
theorem dX3_broken_24 : decode cX3_broken 24 = .ok (.aload_n 0, 1) := by decide +kernel
theorem dX3_broken_25 : decode cX3_broken 25 = .ok (.iload_n 3, 1) := by decide +kernel
theorem dX3_broken_26 : decode cX3_broken 26 = .ok (.invokevirtual 49, 3) := by decide +kernel
theorem dX3_broken_29 : decode cX3_broken 29 = .ok (.ifCond .eq 6, 3) := by decide +kernel
theorem dX3_broken_32 : decode cX3_broken 32 = .ok (.iinc 2 1, 3) := by decide +kernel
theorem dX3_broken_35 : decode cX3_broken 35 = .ok (.iinc 3 1, 3) := by decide +kernel
theorem dX3_broken_38 : decode cX3_broken 38 = .ok (.goto (-32), 3) := by decide +kernel
theorem dX3_broken_41 : decode cX3_broken 41 = .ok (.iload_n 2, 1) := by decide +kernel
theorem dX3_broken_42 : decode cX3_broken 42 = .ok (.iconst 1, 1) := by decide +kernel
theorem dX3_broken_43 : decode cX3_broken 43 = .ok (.if_icmp .le 7, 3) := by decide +kernel
theorem dX3_broken_46 : decode cX3_broken 46 = .ok (.iconst 1, 1) := by decide +kernel
theorem dX3_broken_47 : decode cX3_broken 47 = .ok (.goto 4, 3) := by decide +kernel
theorem dX3_broken_50 : decode cX3_broken 50 = .ok (.iconst 0, 1) := by decide +kernel
theorem dX3_broken_51 : decode cX3_broken 51 = .ok (.ireturn, 1) := by decide +kernel
theorem dX3_wrong_0 : decode cX3_wrong 0 = .ok (.aload_n 0, 1) := by decide +kernel
theorem dX3_wrong_1 : decode cX3_wrong 1 = .ok (.getfield 16, 3) := by decide +kernel
theorem dX3_wrong_4 : decode cX3_wrong 4 = .ok (.iload_n 1, 1) := by decide +kernel
theorem dX3_wrong_5 : decode cX3_wrong 5 = .ok (.baload, 1) := by decide +kernel
theorem dX3_wrong_6 : decode cX3_wrong 6 = .ok (.ifCond .ne 22, 3) := by decide +kernel
theorem dX3_wrong_9 : decode cX3_wrong 9 = .ok (.aload_n 0, 1) := by decide +kernel
theorem dX3_wrong_10 : decode cX3_wrong 10 = .ok (.getfield 13, 3) := by decide +kernel
theorem dX3_wrong_13 : decode cX3_wrong 13 = .ok (.iload_n 1, 1) := by decide +kernel
theorem dX3_wrong_14 : decode cX3_wrong 14 = .ok (.iaload, 1) := by decide +kernel
theorem dX3_wrong_15 : decode cX3_wrong 15 = .ok (.aload_n 0, 1) := by decide +kernel
theorem dX3_wrong_16 : decode cX3_wrong 16 = .ok (.getfield 7, 3) := by decide +kernel
theorem dX3_wrong_19 : decode cX3_wrong 19 = .ok (.iload_n 1, 1) := by decide +kernel
theorem dX3_wrong_20 : decode cX3_wrong 20 = .ok (.iaload, 1) := by decide +kernel
theorem dX3_wrong_21 : decode cX3_wrong 21 = .ok (.if_icmp .eq 7, 3) := by decide +kernel
theorem dX3_wrong_24 : decode cX3_wrong 24 = .ok (.iconst 1, 1) := by decide +kernel
theorem dX3_wrong_25 : decode cX3_wrong 25 = .ok (.goto 4, 3) := by decide +kernel
theorem dX3_wrong_28 : decode cX3_wrong 28 = .ok (.iconst 0, 1) := by decide +kernel
theorem dX3_wrong_29 : decode cX3_wrong 29 = .ok (.ireturn, 1) := by decide +kernel
theorem dX3_mend_0 : decode cX3_mend 0 = .ok (.aload_n 0, 1) := by decide +kernel
theorem dX3_mend_1 : decode cX3_mend 1 = .ok (.iload_n 1, 1) := by decide +kernel
theorem dX3_mend_2 : decode cX3_mend 2 = .ok (.invokevirtual 53, 3) := by decide +kernel
theorem dX3_mend_5 : decode cX3_mend 5 = .ok (.ifCond .eq 5, 3) := by decide +kernel
theorem dX3_mend_8 : decode cX3_mend 8 = .ok (.iconst 0, 1) := by decide +kernel
theorem dX3_mend_9 : decode cX3_mend 9 = .ok (.ireturn, 1) := by decide +kernel
theorem dX3_mend_10 : decode cX3_mend 10 = .ok (.iconst 0, 1) := by decide +kernel
theorem dX3_mend_11 : decode cX3_mend 11 = .ok (.istore_n 2, 1) := by decide +kernel
theorem dX3_mend_12 : decode cX3_mend 12 = .ok (.iconst 4, 1) := by decide +kernel
theorem dX3_mend_13 : decode cX3_mend 13 = .ok (.iload_n 1, 1) := by decide +kernel
theorem dX3_mend_14 : decode cX3_mend 14 = .ok (.imul, 1) := by decide +kernel
theorem dX3_mend_15 : decode cX3_mend 15 = .ok (.istore_n 3, 1) := by decide +kernel
theorem dX3_mend_16 : decode cX3_mend 16 = .ok (.iload_n 3, 1) := by decide +kernel
theorem dX3_mend_17 : decode cX3_mend 17 = .ok (.iconst 4, 1) := by decide +kernel
theorem dX3_mend_18 : decode cX3_mend 18 = .ok (.iload_n 1, 1) := by decide +kernel
theorem dX3_mend_19 : decode cX3_mend 19 = .ok (.imul, 1) := by decide +kernel
theorem dX3_mend_20 : decode cX3_mend 20 = .ok (.iconst 4, 1) := by decide +kernel
theorem dX3_mend_21 : decode cX3_mend 21 = .ok (.iadd, 1) := by decide +kernel
theorem dX3_mend_22 : decode cX3_mend 22 = .ok (.if_icmp .ge 32, 3) := by decide +kernel
theorem dX3_mend_25 : decode cX3_mend 25 = .ok (.aload_n 0, 1) := by decide +kernel
theorem dX3_mend_26 : decode cX3_mend 26 = .ok (.iload_n 3, 1) := by decide +kernel
theorem dX3_mend_27 : decode cX3_mend 27 = .ok (.invokevirtual 49, 3) := by decide +kernel
theorem dX3_mend_30 : decode cX3_mend 30 = .ok (.ifCond .eq 18, 3) := by decide +kernel
theorem dX3_mend_33 : decode cX3_mend 33 = .ok (.aload_n 0, 1) := by decide +kernel
theorem dX3_mend_34 : decode cX3_mend 34 = .ok (.getfield 13, 3) := by decide +kernel
theorem dX3_mend_37 : decode cX3_mend 37 = .ok (.iload_n 3, 1) := by decide +kernel
theorem dX3_mend_38 : decode cX3_mend 38 = .ok (.aload_n 0, 1) := by decide +kernel
theorem dX3_mend_39 : decode cX3_mend 39 = .ok (.getfield 7, 3) := by decide +kernel
theorem dX3_mend_42 : decode cX3_mend 42 = .ok (.iload_n 3, 1) := by decide +kernel
theorem dX3_mend_43 : decode cX3_mend 43 = .ok (.iaload, 1) := by decide +kernel
theorem dX3_mend_44 : decode cX3_mend 44 = .ok (.iastore, 1) := by decide +kernel
theorem dX3_mend_45 : decode cX3_mend 45 = .ok (.iinc 2 1, 3) := by decide +kernel
theorem dX3_mend_48 : decode cX3_mend 48 = .ok (.iinc 3 1, 3) := by decide +kernel
theorem dX3_mend_51 : decode cX3_mend 51 = .ok (.goto (-35), 3) := by decide +kernel
theorem dX3_mend_54 : decode cX3_mend 54 = .ok (.iload_n 2, 1) := by decide +kernel
theorem dX3_mend_55 : decode cX3_mend 55 = .ok (.ireturn, 1) := by decide +kernel
theorem dX3_put_0 : decode cX3_put 0 = .ok (.aload_n 0, 1) := by decide +kernel
theorem dX3_put_1 : decode cX3_put 1 = .ok (.getfield 7, 3) := by decide +kernel
theorem dX3_put_4 : decode cX3_put 4 = .ok (.iload_n 1, 1) := by decide +kernel
theorem dX3_put_5 : decode cX3_put 5 = .ok (.iload_n 2, 1) := by decide +kernel
theorem dX3_put_6 : decode cX3_put 6 = .ok (.iastore, 1) := by decide +kernel
theorem dX3_put_7 : decode cX3_put 7 = .ok (.aload_n 0, 1) := by decide +kernel
theorem dX3_put_8 : decode cX3_put 8 = .ok (.getfield 16, 3) := by decide +kernel
theorem dX3_put_11 : decode cX3_put 11 = .ok (.iload_n 1, 1) := by decide +kernel
theorem dX3_put_12 : decode cX3_put 12 = .ok (.baload, 1) := by decide +kernel
theorem dX3_put_13 : decode cX3_put 13 = .ok (.ifCond .ne 10, 3) := by decide +kernel
theorem dX3_put_16 : decode cX3_put 16 = .ok (.aload_n 0, 1) := by decide +kernel
theorem dX3_put_17 : decode cX3_put 17 = .ok (.getfield 13, 3) := by decide +kernel
theorem dX3_put_20 : decode cX3_put 20 = .ok (.iload_n 1, 1) := by decide +kernel
theorem dX3_put_21 : decode cX3_put 21 = .ok (.iload_n 2, 1) := by decide +kernel
theorem dX3_put_22 : decode cX3_put 22 = .ok (.iastore, 1) := by decide +kernel
theorem dX3_put_23 : decode cX3_put 23 = .ok (.return_, 1) := by decide +kernel
theorem dX3_read_0 : decode cX3_read 0 = .ok (.aload_n 0, 1) := by decide +kernel
theorem dX3_read_1 : decode cX3_read 1 = .ok (.iload_n 1, 1) := by decide +kernel
theorem dX3_read_2 : decode cX3_read 2 = .ok (.iload_n 2, 1) := by decide +kernel
theorem dX3_read_3 : decode cX3_read 3 = .ok (.invokevirtual 77, 3) := by decide +kernel
theorem dX3_read_6 : decode cX3_read 6 = .ok (.istore_n 3, 1) := by decide +kernel
theorem dX3_read_7 : decode cX3_read 7 = .ok (.iload_n 3, 1) := by decide +kernel
theorem dX3_read_8 : decode cX3_read 8 = .ok (.ifCond .ge 7, 3) := by decide +kernel
theorem dX3_read_11 : decode cX3_read 11 = .ok (.ldc2_w 88, 3) := by decide +kernel
theorem dX3_read_14 : decode cX3_read 14 = .ok (.lreturn, 1) := by decide +kernel
theorem dX3_read_15 : decode cX3_read 15 = .ok (.iconst 4, 1) := by decide +kernel
theorem dX3_read_16 : decode cX3_read 16 = .ok (.iload_n 3, 1) := by decide +kernel
theorem dX3_read_17 : decode cX3_read 17 = .ok (.iconst 3, 1) := by decide +kernel
theorem dX3_read_18 : decode cX3_read 18 = .ok (.idiv, 1) := by decide +kernel
theorem dX3_read_19 : decode cX3_read 19 = .ok (.imul, 1) := by decide +kernel
theorem dX3_read_20 : decode cX3_read 20 = .ok (.iload_n 3, 1) := by decide +kernel
theorem dX3_read_21 : decode cX3_read 21 = .ok (.iconst 3, 1) := by decide +kernel
theorem dX3_read_22 : decode cX3_read 22 = .ok (.irem, 1) := by decide +kernel
theorem dX3_read_23 : decode cX3_read 23 = .ok (.iadd, 1) := by decide +kernel
theorem dX3_read_24 : decode cX3_read 24 = .ok (.istore 4, 2) := by decide +kernel
theorem dX3_read_26 : decode cX3_read 26 = .ok (.aload_n 0, 1) := by decide +kernel
theorem dX3_read_27 : decode cX3_read 27 = .ok (.getfield 16, 3) := by decide +kernel
theorem dX3_read_30 : decode cX3_read 30 = .ok (.iload 4, 2) := by decide +kernel
theorem dX3_read_32 : decode cX3_read 32 = .ok (.baload, 1) := by decide +kernel
theorem dX3_read_33 : decode cX3_read 33 = .ok (.ifCond .ne 12, 3) := by decide +kernel
theorem dX3_read_36 : decode cX3_read 36 = .ok (.aload_n 0, 1) := by decide +kernel
theorem dX3_read_37 : decode cX3_read 37 = .ok (.iload 4, 2) := by decide +kernel
theorem dX3_read_39 : decode cX3_read 39 = .ok (.invokevirtual 49, 3) := by decide +kernel
theorem dX3_read_42 : decode cX3_read 42 = .ok (.ifCond .eq 7, 3) := by decide +kernel
theorem dX3_read_45 : decode cX3_read 45 = .ok (.iconst 1, 1) := by decide +kernel
theorem dX3_read_46 : decode cX3_read 46 = .ok (.goto 4, 3) := by decide +kernel
theorem dX3_read_49 : decode cX3_read 49 = .ok (.iconst 0, 1) := by decide +kernel
theorem dX3_read_50 : decode cX3_read 50 = .ok (.istore 5, 2) := by decide +kernel
theorem dX3_read_52 : decode cX3_read 52 = .ok (.iload 5, 2) := by decide +kernel
theorem dX3_read_54 : decode cX3_read 54 = .ok (.ifCond .eq 17, 3) := by decide +kernel
theorem dX3_read_57 : decode cX3_read 57 = .ok (.aload_n 0, 1) := by decide +kernel
theorem dX3_read_58 : decode cX3_read 58 = .ok (.iload_n 3, 1) := by decide +kernel
theorem dX3_read_59 : decode cX3_read 59 = .ok (.iconst 3, 1) := by decide +kernel
theorem dX3_read_60 : decode cX3_read 60 = .ok (.idiv, 1) := by decide +kernel
theorem dX3_read_61 : decode cX3_read 61 = .ok (.invokevirtual 53, 3) := by decide +kernel
theorem dX3_read_64 : decode cX3_read 64 = .ok (.ifCond .eq 7, 3) := by decide +kernel
theorem dX3_read_67 : decode cX3_read 67 = .ok (.ldc2_w 90, 3) := by decide +kernel
theorem dX3_read_70 : decode cX3_read 70 = .ok (.lreturn, 1) := by decide +kernel
theorem dX3_read_71 : decode cX3_read 71 = .ok (.aload_n 0, 1) := by decide +kernel
theorem dX3_read_72 : decode cX3_read 72 = .ok (.iload 4, 2) := by decide +kernel
theorem dX3_read_74 : decode cX3_read 74 = .ok (.invokevirtual 49, 3) := by decide +kernel
theorem dX3_read_77 : decode cX3_read 77 = .ok (.ifCond .eq 17, 3) := by decide +kernel
theorem dX3_read_80 : decode cX3_read 80 = .ok (.aload_n 0, 1) := by decide +kernel
theorem dX3_read_81 : decode cX3_read 81 = .ok (.getfield 13, 3) := by decide +kernel
theorem dX3_read_84 : decode cX3_read 84 = .ok (.iload 4, 2) := by decide +kernel
theorem dX3_read_86 : decode cX3_read 86 = .ok (.aload_n 0, 1) := by decide +kernel
theorem dX3_read_87 : decode cX3_read 87 = .ok (.getfield 7, 3) := by decide +kernel
theorem dX3_read_90 : decode cX3_read 90 = .ok (.iload 4, 2) := by decide +kernel
theorem dX3_read_92 : decode cX3_read 92 = .ok (.iaload, 1) := by decide +kernel
theorem dX3_read_93 : decode cX3_read 93 = .ok (.iastore, 1) := by decide +kernel
theorem dX3_read_94 : decode cX3_read 94 = .ok (.aload_n 0, 1) := by decide +kernel
theorem dX3_read_95 : decode cX3_read 95 = .ok (.getfield 7, 3) := by decide +kernel
theorem dX3_read_98 : decode cX3_read 98 = .ok (.iload 4, 2) := by decide +kernel
theorem dX3_read_100 : decode cX3_read 100 = .ok (.iaload, 1) := by decide +kernel
theorem dX3_read_101 : decode cX3_read 101 = .ok (.i2l, 1) := by decide +kernel
theorem dX3_read_102 : decode cX3_read 102 = .ok (.lreturn, 1) := by decide +kernel
theorem dX3_fail_0 : decode cX3_fail 0 = .ok (.iload_n 1, 1) := by decide +kernel
theorem dX3_fail_1 : decode cX3_fail 1 = .ok (.bipush 7, 2) := by decide +kernel
theorem dX3_fail_3 : decode cX3_fail 3 = .ok (.invokestatic 67, 3) := by decide +kernel
theorem dX3_fail_6 : decode cX3_fail 6 = .ok (.ifCond .eq 12, 3) := by decide +kernel
theorem dX3_fail_9 : decode cX3_fail 9 = .ok (.aload_n 0, 1) := by decide +kernel
theorem dX3_fail_10 : decode cX3_fail 10 = .ok (.getfield 23, 3) := by decide +kernel
theorem dX3_fail_13 : decode cX3_fail 13 = .ok (.iload_n 1, 1) := by decide +kernel
theorem dX3_fail_14 : decode cX3_fail 14 = .ok (.baload, 1) := by decide +kernel
theorem dX3_fail_15 : decode cX3_fail 15 = .ok (.ifCond .eq 5, 3) := by decide +kernel
theorem dX3_fail_18 : decode cX3_fail 18 = .ok (.iconst (-1), 1) := by decide +kernel
theorem dX3_fail_19 : decode cX3_fail 19 = .ok (.ireturn, 1) := by decide +kernel
theorem dX3_fail_20 : decode cX3_fail 20 = .ok (.aload_n 0, 1) := by decide +kernel
theorem dX3_fail_21 : decode cX3_fail 21 = .ok (.getfield 23, 3) := by decide +kernel
theorem dX3_fail_24 : decode cX3_fail 24 = .ok (.iload_n 1, 1) := by decide +kernel
theorem dX3_fail_25 : decode cX3_fail 25 = .ok (.iconst 1, 1) := by decide +kernel
theorem dX3_fail_26 : decode cX3_fail 26 = .ok (.bastore, 1) := by decide +kernel
theorem dX3_fail_27 : decode cX3_fail 27 = .ok (.iconst 0, 1) := by decide +kernel
theorem dX3_fail_28 : decode cX3_fail 28 = .ok (.istore_n 2, 1) := by decide +kernel
theorem dX3_fail_29 : decode cX3_fail 29 = .ok (.iconst 0, 1) := by decide +kernel
theorem dX3_fail_30 : decode cX3_fail 30 = .ok (.istore_n 3, 1) := by decide +kernel
theorem dX3_fail_31 : decode cX3_fail 31 = .ok (.iload_n 3, 1) := by decide +kernel
theorem dX3_fail_32 : decode cX3_fail 32 = .ok (.iconst 4, 1) := by decide +kernel
theorem dX3_fail_33 : decode cX3_fail 33 = .ok (.aload_n 0, 1) := by decide +kernel
theorem dX3_fail_34 : decode cX3_fail 34 = .ok (.getfield 38, 3) := by decide +kernel
theorem dX3_fail_37 : decode cX3_fail 37 = .ok (.imul, 1) := by decide +kernel
theorem dX3_fail_38 : decode cX3_fail 38 = .ok (.if_icmp .ge 35, 3) := by decide +kernel
theorem dX3_fail_41 : decode cX3_fail 41 = .ok (.aload_n 0, 1) := by decide +kernel
theorem dX3_fail_42 : decode cX3_fail 42 = .ok (.iload_n 3, 1) := by decide +kernel
theorem dX3_fail_43 : decode cX3_fail 43 = .ok (.invokevirtual 92, 3) := by decide +kernel
theorem dX3_fail_46 : decode cX3_fail 46 = .ok (.iload_n 1, 1) := by decide +kernel
theorem dX3_fail_47 : decode cX3_fail 47 = .ok (.if_icmp .ne 20, 3) := by decide +kernel
theorem dX3_fail_50 : decode cX3_fail 50 = .ok (.aload_n 0, 1) := by decide +kernel
theorem dX3_fail_51 : decode cX3_fail 51 = .ok (.getfield 16, 3) := by decide +kernel
theorem dX3_fail_54 : decode cX3_fail 54 = .ok (.iload_n 3, 1) := by decide +kernel
theorem dX3_fail_55 : decode cX3_fail 55 = .ok (.iconst 1, 1) := by decide +kernel
theorem dX3_fail_56 : decode cX3_fail 56 = .ok (.bastore, 1) := by decide +kernel
theorem dX3_fail_57 : decode cX3_fail 57 = .ok (.aload_n 0, 1) := by decide +kernel
theorem dX3_fail_58 : decode cX3_fail 58 = .ok (.getfield 20, 3) := by decide +kernel
theorem dX3_fail_61 : decode cX3_fail 61 = .ok (.iload_n 3, 1) := by decide +kernel
theorem dX3_fail_62 : decode cX3_fail 62 = .ok (.iconst 0, 1) := by decide +kernel
theorem dX3_fail_63 : decode cX3_fail 63 = .ok (.bastore, 1) := by decide +kernel
theorem dX3_fail_64 : decode cX3_fail 64 = .ok (.iinc 2 1, 3) := by decide +kernel
theorem dX3_fail_67 : decode cX3_fail 67 = .ok (.iinc 3 1, 3) := by decide +kernel
theorem dX3_fail_70 : decode cX3_fail 70 = .ok (.goto (-39), 3) := by decide +kernel
theorem dX3_fail_73 : decode cX3_fail 73 = .ok (.iload_n 2, 1) := by decide +kernel
theorem dX3_fail_74 : decode cX3_fail 74 = .ok (.ireturn, 1) := by decide +kernel
theorem dX3_on_0 : decode cX3_on 0 = .ok (.aload_n 0, 1) := by decide +kernel
theorem dX3_on_1 : decode cX3_on 1 = .ok (.getfield 16, 3) := by decide +kernel
theorem dX3_on_4 : decode cX3_on 4 = .ok (.iload_n 1, 1) := by decide +kernel
theorem dX3_on_5 : decode cX3_on 5 = .ok (.baload, 1) := by decide +kernel
theorem dX3_on_6 : decode cX3_on 6 = .ok (.ifCond .eq 7, 3) := by decide +kernel
theorem dX3_on_9 : decode cX3_on 9 = .ok (.iconst (-1), 1) := by decide +kernel
theorem dX3_on_10 : decode cX3_on 10 = .ok (.goto 25, 3) := by decide +kernel
theorem dX3_on_13 : decode cX3_on 13 = .ok (.aload_n 0, 1) := by decide +kernel
theorem dX3_on_14 : decode cX3_on 14 = .ok (.getfield 20, 3) := by decide +kernel
theorem dX3_on_17 : decode cX3_on 17 = .ok (.iload_n 1, 1) := by decide +kernel
theorem dX3_on_18 : decode cX3_on 18 = .ok (.baload, 1) := by decide +kernel
theorem dX3_on_19 : decode cX3_on 19 = .ok (.ifCond .eq 11, 3) := by decide +kernel
theorem dX3_on_22 : decode cX3_on 22 = .ok (.aload_n 0, 1) := by decide +kernel
theorem dX3_on_23 : decode cX3_on 23 = .ok (.iload_n 1, 1) := by decide +kernel
theorem dX3_on_24 : decode cX3_on 24 = .ok (.invokevirtual 42, 3) := by decide +kernel
theorem dX3_on_27 : decode cX3_on 27 = .ok (.goto 8, 3) := by decide +kernel
theorem dX3_on_30 : decode cX3_on 30 = .ok (.aload_n 0, 1) := by decide +kernel
theorem dX3_on_31 : decode cX3_on 31 = .ok (.iload_n 1, 1) := by decide +kernel
theorem dX3_on_32 : decode cX3_on 32 = .ok (.invokevirtual 46, 3) := by decide +kernel
theorem dX3_on_35 : decode cX3_on 35 = .ok (.ireturn, 1) := by decide +kernel
theorem dX3_spare_0 : decode cX3_spare 0 = .ok (.iload_n 1, 1) := by decide +kernel
theorem dX3_spare_1 : decode cX3_spare 1 = .ok (.iconst 4, 1) := by decide +kernel
theorem dX3_spare_2 : decode cX3_spare 2 = .ok (.idiv, 1) := by decide +kernel
theorem dX3_spare_3 : decode cX3_spare 3 = .ok (.bipush 7, 2) := by decide +kernel
theorem dX3_spare_5 : decode cX3_spare 5 = .ok (.irem, 1) := by decide +kernel
theorem dX3_spare_6 : decode cX3_spare 6 = .ok (.ireturn, 1) := by decide +kernel
theorem dX3_home_0 : decode cX3_home 0 = .ok (.iload_n 1, 1) := by decide +kernel
theorem dX3_home_1 : decode cX3_home 1 = .ok (.iconst 4, 1) := by decide +kernel
theorem dX3_home_2 : decode cX3_home 2 = .ok (.irem, 1) := by decide +kernel
theorem dX3_home_3 : decode cX3_home 3 = .ok (.istore_n 2, 1) := by decide +kernel
theorem dX3_home_4 : decode cX3_home 4 = .ok (.iload_n 2, 1) := by decide +kernel
theorem dX3_home_5 : decode cX3_home 5 = .ok (.ifCond .ne 7, 3) := by decide +kernel
theorem dX3_home_8 : decode cX3_home 8 = .ok (.iconst 2, 1) := by decide +kernel
theorem dX3_home_9 : decode cX3_home 9 = .ok (.goto 23, 3) := by decide +kernel
theorem dX3_home_12 : decode cX3_home 12 = .ok (.iload_n 2, 1) := by decide +kernel
theorem dX3_home_13 : decode cX3_home 13 = .ok (.iconst 1, 1) := by decide +kernel
theorem dX3_home_14 : decode cX3_home 14 = .ok (.if_icmp .ne 7, 3) := by decide +kernel
theorem dX3_home_17 : decode cX3_home 17 = .ok (.iconst 4, 1) := by decide +kernel
theorem dX3_home_18 : decode cX3_home 18 = .ok (.goto 14, 3) := by decide +kernel
theorem dX3_home_21 : decode cX3_home 21 = .ok (.iload_n 2, 1) := by decide +kernel
theorem dX3_home_22 : decode cX3_home 22 = .ok (.iconst 2, 1) := by decide +kernel
theorem dX3_home_23 : decode cX3_home 23 = .ok (.if_icmp .ne 7, 3) := by decide +kernel
theorem dX3_home_26 : decode cX3_home 26 = .ok (.iconst 5, 1) := by decide +kernel
theorem dX3_home_27 : decode cX3_home 27 = .ok (.goto 5, 3) := by decide +kernel
theorem dX3_home_30 : decode cX3_home 30 = .ok (.bipush 6, 2) := by decide +kernel
theorem dX3_home_32 : decode cX3_home 32 = .ok (.istore_n 3, 1) := by decide +kernel
theorem dX3_home_33 : decode cX3_home 33 = .ok (.iload_n 1, 1) := by decide +kernel
theorem dX3_home_34 : decode cX3_home 34 = .ok (.iconst 4, 1) := by decide +kernel
theorem dX3_home_35 : decode cX3_home 35 = .ok (.idiv, 1) := by decide +kernel
theorem dX3_home_36 : decode cX3_home 36 = .ok (.bipush 7, 2) := by decide +kernel
theorem dX3_home_38 : decode cX3_home 38 = .ok (.irem, 1) := by decide +kernel
theorem dX3_home_39 : decode cX3_home 39 = .ok (.iload_n 3, 1) := by decide +kernel
theorem dX3_home_40 : decode cX3_home 40 = .ok (.iadd, 1) := by decide +kernel
theorem dX3_home_41 : decode cX3_home 41 = .ok (.bipush 7, 2) := by decide +kernel
theorem dX3_home_43 : decode cX3_home 43 = .ok (.irem, 1) := by decide +kernel
theorem dX3_home_44 : decode cX3_home 44 = .ok (.ireturn, 1) := by decide +kernel
theorem dX3_replace_0 : decode cX3_replace 0 = .ok (.iload_n 1, 1) := by decide +kernel
theorem dX3_replace_1 : decode cX3_replace 1 = .ok (.bipush 7, 2) := by decide +kernel
theorem dX3_replace_3 : decode cX3_replace 3 = .ok (.invokestatic 67, 3) := by decide +kernel
theorem dX3_replace_6 : decode cX3_replace 6 = .ok (.ifCond .eq 12, 3) := by decide +kernel
theorem dX3_replace_9 : decode cX3_replace 9 = .ok (.aload_n 0, 1) := by decide +kernel
theorem dX3_replace_10 : decode cX3_replace 10 = .ok (.getfield 23, 3) := by decide +kernel
theorem dX3_replace_13 : decode cX3_replace 13 = .ok (.iload_n 1, 1) := by decide +kernel
theorem dX3_replace_14 : decode cX3_replace 14 = .ok (.baload, 1) := by decide +kernel
theorem dX3_replace_15 : decode cX3_replace 15 = .ok (.ifCond .ne 5, 3) := by decide +kernel
theorem dX3_replace_18 : decode cX3_replace 18 = .ok (.iconst (-1), 1) := by decide +kernel
theorem dX3_replace_19 : decode cX3_replace 19 = .ok (.ireturn, 1) := by decide +kernel
theorem dX3_replace_20 : decode cX3_replace 20 = .ok (.aload_n 0, 1) := by decide +kernel
theorem dX3_replace_21 : decode cX3_replace 21 = .ok (.getfield 23, 3) := by decide +kernel
theorem dX3_replace_24 : decode cX3_replace 24 = .ok (.iload_n 1, 1) := by decide +kernel
theorem dX3_replace_25 : decode cX3_replace 25 = .ok (.iconst 0, 1) := by decide +kernel
theorem dX3_replace_26 : decode cX3_replace 26 = .ok (.bastore, 1) := by decide +kernel
theorem dX3_replace_27 : decode cX3_replace 27 = .ok (.iconst 0, 1) := by decide +kernel
theorem dX3_replace_28 : decode cX3_replace 28 = .ok (.ireturn, 1) := by decide +kernel
theorem dX3_alter_0 : decode cX3_alter 0 = .ok (.iload_n 1, 1) := by decide +kernel
theorem dX3_alter_1 : decode cX3_alter 1 = .ok (.aload_n 0, 1) := by decide +kernel
theorem dX3_alter_2 : decode cX3_alter 2 = .ok (.getfield 38, 3) := by decide +kernel
theorem dX3_alter_5 : decode cX3_alter 5 = .ok (.invokestatic 67, 3) := by decide +kernel
theorem dX3_alter_8 : decode cX3_alter 8 = .ok (.ifCond .eq 28, 3) := by decide +kernel
theorem dX3_alter_11 : decode cX3_alter 11 = .ok (.iload_n 2, 1) := by decide +kernel
theorem dX3_alter_12 : decode cX3_alter 12 = .ok (.iconst 4, 1) := by decide +kernel
theorem dX3_alter_13 : decode cX3_alter 13 = .ok (.invokestatic 67, 3) := by decide +kernel
theorem dX3_alter_16 : decode cX3_alter 16 = .ok (.ifCond .eq 20, 3) := by decide +kernel
theorem dX3_alter_19 : decode cX3_alter 19 = .ok (.aload_n 0, 1) := by decide +kernel
theorem dX3_alter_20 : decode cX3_alter 20 = .ok (.getfield 16, 3) := by decide +kernel
theorem dX3_alter_23 : decode cX3_alter 23 = .ok (.iconst 4, 1) := by decide +kernel
theorem dX3_alter_24 : decode cX3_alter 24 = .ok (.iload_n 1, 1) := by decide +kernel
theorem dX3_alter_25 : decode cX3_alter 25 = .ok (.imul, 1) := by decide +kernel
theorem dX3_alter_26 : decode cX3_alter 26 = .ok (.iload_n 2, 1) := by decide +kernel
theorem dX3_alter_27 : decode cX3_alter 27 = .ok (.iadd, 1) := by decide +kernel
theorem dX3_alter_28 : decode cX3_alter 28 = .ok (.baload, 1) := by decide +kernel
theorem dX3_alter_29 : decode cX3_alter 29 = .ok (.ifCond .ne 7, 3) := by decide +kernel
theorem dX3_alter_32 : decode cX3_alter 32 = .ok (.iload_n 3, 1) := by decide +kernel
theorem dX3_alter_33 : decode cX3_alter 33 = .ok (.ifCond .ne 5, 3) := by decide +kernel
theorem dX3_alter_36 : decode cX3_alter 36 = .ok (.iconst (-1), 1) := by decide +kernel
theorem dX3_alter_37 : decode cX3_alter 37 = .ok (.ireturn, 1) := by decide +kernel
theorem dX3_alter_38 : decode cX3_alter 38 = .ok (.aload_n 0, 1) := by decide +kernel
theorem dX3_alter_39 : decode cX3_alter 39 = .ok (.getfield 13, 3) := by decide +kernel
theorem dX3_alter_42 : decode cX3_alter 42 = .ok (.iconst 4, 1) := by decide +kernel
theorem dX3_alter_43 : decode cX3_alter 43 = .ok (.iload_n 1, 1) := by decide +kernel
theorem dX3_alter_44 : decode cX3_alter 44 = .ok (.imul, 1) := by decide +kernel
theorem dX3_alter_45 : decode cX3_alter 45 = .ok (.iload_n 2, 1) := by decide +kernel
theorem dX3_alter_46 : decode cX3_alter 46 = .ok (.iadd, 1) := by decide +kernel
theorem dX3_alter_47 : decode cX3_alter 47 = .ok (.dup2, 1) := by decide +kernel
theorem dX3_alter_48 : decode cX3_alter 48 = .ok (.iaload, 1) := by decide +kernel
theorem dX3_alter_49 : decode cX3_alter 49 = .ok (.iload_n 3, 1) := by decide +kernel
theorem dX3_alter_50 : decode cX3_alter 50 = .ok (.ixor, 1) := by decide +kernel
theorem dX3_alter_51 : decode cX3_alter 51 = .ok (.iastore, 1) := by decide +kernel
theorem dX3_alter_52 : decode cX3_alter 52 = .ok (.iconst 0, 1) := by decide +kernel
theorem dX3_alter_53 : decode cX3_alter 53 = .ok (.ireturn, 1) := by decide +kernel
theorem dX3_rebuild_0 : decode cX3_rebuild 0 = .ok (.iload_n 1, 1) := by decide +kernel
theorem dX3_rebuild_1 : decode cX3_rebuild 1 = .ok (.iconst 1, 1) := by decide +kernel
theorem dX3_rebuild_2 : decode cX3_rebuild 2 = .ok (.if_icmp .lt 9, 3) := by decide +kernel
theorem dX3_rebuild_5 : decode cX3_rebuild 5 = .ok (.iload_n 1, 1) := by decide +kernel
theorem dX3_rebuild_6 : decode cX3_rebuild 6 = .ok (.bipush 21, 2) := by decide +kernel
theorem dX3_rebuild_8 : decode cX3_rebuild 8 = .ok (.if_icmp .le 5, 3) := by decide +kernel
theorem dX3_rebuild_11 : decode cX3_rebuild 11 = .ok (.iconst (-1), 1) := by decide +kernel
theorem dX3_rebuild_12 : decode cX3_rebuild 12 = .ok (.ireturn, 1) := by decide +kernel
theorem dX3_rebuild_13 : decode cX3_rebuild 13 = .ok (.iconst 0, 1) := by decide +kernel
theorem dX3_rebuild_14 : decode cX3_rebuild 14 = .ok (.istore_n 2, 1) := by decide +kernel
theorem dX3_rebuild_15 : decode cX3_rebuild 15 = .ok (.iconst 0, 1) := by decide +kernel
theorem dX3_rebuild_16 : decode cX3_rebuild 16 = .ok (.istore_n 3, 1) := by decide +kernel
theorem dX3_rebuild_17 : decode cX3_rebuild 17 = .ok (.iload_n 3, 1) := by decide +kernel
theorem dX3_rebuild_18 : decode cX3_rebuild 18 = .ok (.aload_n 0, 1) := by decide +kernel
theorem dX3_rebuild_19 : decode cX3_rebuild 19 = .ok (.getfield 38, 3) := by decide +kernel
theorem dX3_rebuild_22 : decode cX3_rebuild 22 = .ok (.if_icmp .ge 25, 3) := by decide +kernel
theorem dX3_rebuild_25 : decode cX3_rebuild 25 = .ok (.iload_n 2, 1) := by decide +kernel
theorem dX3_rebuild_26 : decode cX3_rebuild 26 = .ok (.iload_n 1, 1) := by decide +kernel
theorem dX3_rebuild_27 : decode cX3_rebuild 27 = .ok (.if_icmp .ge 20, 3) := by decide +kernel
theorem dX3_rebuild_30 : decode cX3_rebuild 30 = .ok (.aload_n 0, 1) := by decide +kernel
theorem dX3_rebuild_31 : decode cX3_rebuild 31 = .ok (.iload_n 3, 1) := by decide +kernel
theorem dX3_rebuild_32 : decode cX3_rebuild 32 = .ok (.invokevirtual 98, 3) := by decide +kernel
theorem dX3_rebuild_35 : decode cX3_rebuild 35 = .ok (.ifCond .eq 6, 3) := by decide +kernel
theorem dX3_rebuild_38 : decode cX3_rebuild 38 = .ok (.iinc 2 1, 3) := by decide +kernel
theorem dX3_rebuild_41 : decode cX3_rebuild 41 = .ok (.iinc 3 1, 3) := by decide +kernel
theorem dX3_rebuild_44 : decode cX3_rebuild 44 = .ok (.goto (-27), 3) := by decide +kernel
theorem dX3_rebuild_47 : decode cX3_rebuild 47 = .ok (.iload_n 2, 1) := by decide +kernel
theorem dX3_rebuild_48 : decode cX3_rebuild 48 = .ok (.ireturn, 1) := by decide +kernel
theorem dX3_rebuilt_0 : decode cX3_rebuilt 0 = .ok (.aload_n 0, 1) := by decide +kernel
theorem dX3_rebuilt_1 : decode cX3_rebuilt 1 = .ok (.iload_n 1, 1) := by decide +kernel
theorem dX3_rebuilt_2 : decode cX3_rebuilt 2 = .ok (.invokevirtual 53, 3) := by decide +kernel
theorem dX3_rebuilt_5 : decode cX3_rebuilt 5 = .ok (.ifCond .eq 5, 3) := by decide +kernel
theorem dX3_rebuilt_8 : decode cX3_rebuilt 8 = .ok (.iconst 0, 1) := by decide +kernel
theorem dX3_rebuilt_9 : decode cX3_rebuilt 9 = .ok (.ireturn, 1) := by decide +kernel
theorem dX3_rebuilt_10 : decode cX3_rebuilt 10 = .ok (.iconst 4, 1) := by decide +kernel
theorem dX3_rebuilt_11 : decode cX3_rebuilt 11 = .ok (.iload_n 1, 1) := by decide +kernel
theorem dX3_rebuilt_12 : decode cX3_rebuilt 12 = .ok (.imul, 1) := by decide +kernel
theorem dX3_rebuilt_13 : decode cX3_rebuilt 13 = .ok (.istore_n 2, 1) := by decide +kernel
theorem dX3_rebuilt_14 : decode cX3_rebuilt 14 = .ok (.iload_n 2, 1) := by decide +kernel
theorem dX3_rebuilt_15 : decode cX3_rebuilt 15 = .ok (.iconst 4, 1) := by decide +kernel
theorem dX3_rebuilt_16 : decode cX3_rebuilt 16 = .ok (.iload_n 1, 1) := by decide +kernel
theorem dX3_rebuilt_17 : decode cX3_rebuilt 17 = .ok (.imul, 1) := by decide +kernel
theorem dX3_rebuilt_18 : decode cX3_rebuilt 18 = .ok (.iconst 4, 1) := by decide +kernel
theorem dX3_rebuilt_19 : decode cX3_rebuilt 19 = .ok (.iadd, 1) := by decide +kernel
theorem dX3_rebuilt_20 : decode cX3_rebuilt 20 = .ok (.if_icmp .ge 117, 3) := by decide +kernel
theorem dX3_rebuilt_23 : decode cX3_rebuilt 23 = .ok (.aload_n 0, 1) := by decide +kernel
theorem dX3_rebuilt_24 : decode cX3_rebuilt 24 = .ok (.getfield 16, 3) := by decide +kernel
theorem dX3_rebuilt_27 : decode cX3_rebuilt 27 = .ok (.iload_n 2, 1) := by decide +kernel
theorem dX3_rebuilt_28 : decode cX3_rebuilt 28 = .ok (.baload, 1) := by decide +kernel
theorem dX3_rebuilt_29 : decode cX3_rebuilt 29 = .ok (.ifCond .eq 20, 3) := by decide +kernel
theorem dX3_rebuilt_32 : decode cX3_rebuilt 32 = .ok (.aload_n 0, 1) := by decide +kernel
theorem dX3_rebuilt_33 : decode cX3_rebuilt 33 = .ok (.getfield 23, 3) := by decide +kernel
theorem dX3_rebuilt_36 : decode cX3_rebuilt 36 = .ok (.aload_n 0, 1) := by decide +kernel
theorem dX3_rebuilt_37 : decode cX3_rebuilt 37 = .ok (.iload_n 2, 1) := by decide +kernel
theorem dX3_rebuilt_38 : decode cX3_rebuilt 38 = .ok (.invokevirtual 46, 3) := by decide +kernel
theorem dX3_rebuilt_41 : decode cX3_rebuilt 41 = .ok (.baload, 1) := by decide +kernel
theorem dX3_rebuilt_42 : decode cX3_rebuilt 42 = .ok (.ifCond .ne 7, 3) := by decide +kernel
theorem dX3_rebuilt_45 : decode cX3_rebuilt 45 = .ok (.iconst 1, 1) := by decide +kernel
theorem dX3_rebuilt_46 : decode cX3_rebuilt 46 = .ok (.goto 4, 3) := by decide +kernel
theorem dX3_rebuilt_49 : decode cX3_rebuilt 49 = .ok (.iconst 0, 1) := by decide +kernel
theorem dX3_rebuilt_50 : decode cX3_rebuilt 50 = .ok (.istore_n 3, 1) := by decide +kernel
theorem dX3_rebuilt_51 : decode cX3_rebuilt 51 = .ok (.aload_n 0, 1) := by decide +kernel
theorem dX3_rebuilt_52 : decode cX3_rebuilt 52 = .ok (.getfield 16, 3) := by decide +kernel
theorem dX3_rebuilt_55 : decode cX3_rebuilt 55 = .ok (.iload_n 2, 1) := by decide +kernel
theorem dX3_rebuilt_56 : decode cX3_rebuilt 56 = .ok (.baload, 1) := by decide +kernel
theorem dX3_rebuilt_57 : decode cX3_rebuilt 57 = .ok (.ifCond .eq 33, 3) := by decide +kernel
theorem dX3_rebuilt_60 : decode cX3_rebuilt 60 = .ok (.iload_n 3, 1) := by decide +kernel
theorem dX3_rebuilt_61 : decode cX3_rebuilt 61 = .ok (.ifCond .ne 29, 3) := by decide +kernel
theorem dX3_rebuilt_64 : decode cX3_rebuilt 64 = .ok (.aload_n 0, 1) := by decide +kernel
theorem dX3_rebuilt_65 : decode cX3_rebuilt 65 = .ok (.getfield 23, 3) := by decide +kernel
theorem dX3_rebuilt_68 : decode cX3_rebuilt 68 = .ok (.aload_n 0, 1) := by decide +kernel
theorem dX3_rebuilt_69 : decode cX3_rebuilt 69 = .ok (.iload_n 2, 1) := by decide +kernel
theorem dX3_rebuilt_70 : decode cX3_rebuilt 70 = .ok (.invokevirtual 42, 3) := by decide +kernel
theorem dX3_rebuilt_73 : decode cX3_rebuilt 73 = .ok (.baload, 1) := by decide +kernel
theorem dX3_rebuilt_74 : decode cX3_rebuilt 74 = .ok (.ifCond .ne 16, 3) := by decide +kernel
theorem dX3_rebuilt_77 : decode cX3_rebuilt 77 = .ok (.aload_n 0, 1) := by decide +kernel
theorem dX3_rebuilt_78 : decode cX3_rebuilt 78 = .ok (.iload_n 1, 1) := by decide +kernel
theorem dX3_rebuilt_79 : decode cX3_rebuilt 79 = .ok (.invokevirtual 95, 3) := by decide +kernel
theorem dX3_rebuilt_82 : decode cX3_rebuilt 82 = .ok (.iconst 4, 1) := by decide +kernel
theorem dX3_rebuilt_83 : decode cX3_rebuilt 83 = .ok (.if_icmp .ne 7, 3) := by decide +kernel
theorem dX3_rebuilt_86 : decode cX3_rebuilt 86 = .ok (.iconst 1, 1) := by decide +kernel
theorem dX3_rebuilt_87 : decode cX3_rebuilt 87 = .ok (.goto 4, 3) := by decide +kernel
theorem dX3_rebuilt_90 : decode cX3_rebuilt 90 = .ok (.iconst 0, 1) := by decide +kernel
theorem dX3_rebuilt_91 : decode cX3_rebuilt 91 = .ok (.istore 4, 2) := by decide +kernel
theorem dX3_rebuilt_93 : decode cX3_rebuilt 93 = .ok (.iload_n 3, 1) := by decide +kernel
theorem dX3_rebuilt_94 : decode cX3_rebuilt 94 = .ok (.ifCond .ne 8, 3) := by decide +kernel
theorem dX3_rebuilt_97 : decode cX3_rebuilt 97 = .ok (.iload 4, 2) := by decide +kernel
theorem dX3_rebuilt_99 : decode cX3_rebuilt 99 = .ok (.ifCond .eq 32, 3) := by decide +kernel
theorem dX3_rebuilt_102 : decode cX3_rebuilt 102 = .ok (.aload_n 0, 1) := by decide +kernel
theorem dX3_rebuilt_103 : decode cX3_rebuilt 103 = .ok (.getfield 16, 3) := by decide +kernel
theorem dX3_rebuilt_106 : decode cX3_rebuilt 106 = .ok (.iload_n 2, 1) := by decide +kernel
theorem dX3_rebuilt_107 : decode cX3_rebuilt 107 = .ok (.iconst 0, 1) := by decide +kernel
theorem dX3_rebuilt_108 : decode cX3_rebuilt 108 = .ok (.bastore, 1) := by decide +kernel
theorem dX3_rebuilt_109 : decode cX3_rebuilt 109 = .ok (.aload_n 0, 1) := by decide +kernel
theorem dX3_rebuilt_110 : decode cX3_rebuilt 110 = .ok (.getfield 13, 3) := by decide +kernel
theorem dX3_rebuilt_113 : decode cX3_rebuilt 113 = .ok (.iload_n 2, 1) := by decide +kernel
theorem dX3_rebuilt_114 : decode cX3_rebuilt 114 = .ok (.aload_n 0, 1) := by decide +kernel
theorem dX3_rebuilt_115 : decode cX3_rebuilt 115 = .ok (.getfield 7, 3) := by decide +kernel
theorem dX3_rebuilt_118 : decode cX3_rebuilt 118 = .ok (.iload_n 2, 1) := by decide +kernel
theorem dX3_rebuilt_119 : decode cX3_rebuilt 119 = .ok (.iaload, 1) := by decide +kernel
theorem dX3_rebuilt_120 : decode cX3_rebuilt 120 = .ok (.iastore, 1) := by decide +kernel
theorem dX3_rebuilt_121 : decode cX3_rebuilt 121 = .ok (.aload_n 0, 1) := by decide +kernel
theorem dX3_rebuilt_122 : decode cX3_rebuilt 122 = .ok (.getfield 20, 3) := by decide +kernel
theorem dX3_rebuilt_125 : decode cX3_rebuilt 125 = .ok (.iload_n 2, 1) := by decide +kernel
theorem dX3_rebuilt_126 : decode cX3_rebuilt 126 = .ok (.iload 4, 2) := by decide +kernel
theorem dX3_rebuilt_128 : decode cX3_rebuilt 128 = .ok (.bastore, 1) := by decide +kernel
theorem dX3_rebuilt_129 : decode cX3_rebuilt 129 = .ok (.iconst 1, 1) := by decide +kernel
theorem dX3_rebuilt_130 : decode cX3_rebuilt 130 = .ok (.ireturn, 1) := by decide +kernel
theorem dX3_rebuilt_131 : decode cX3_rebuilt 131 = .ok (.iinc 2 1, 3) := by decide +kernel
theorem dX3_rebuilt_134 : decode cX3_rebuilt 134 = .ok (.goto (-120), 3) := by decide +kernel
theorem dX3_rebuilt_137 : decode cX3_rebuilt 137 = .ok (.iconst 0, 1) := by decide +kernel
theorem dX3_rebuilt_138 : decode cX3_rebuilt 138 = .ok (.ireturn, 1) := by decide +kernel
theorem dX3_movedOf_0 : decode cX3_movedOf 0 = .ok (.iconst 0, 1) := by decide +kernel
theorem dX3_movedOf_1 : decode cX3_movedOf 1 = .ok (.istore_n 2, 1) := by decide +kernel
theorem dX3_movedOf_2 : decode cX3_movedOf 2 = .ok (.iload_n 2, 1) := by decide +kernel
theorem dX3_movedOf_3 : decode cX3_movedOf 3 = .ok (.iconst 4, 1) := by decide +kernel
theorem dX3_movedOf_4 : decode cX3_movedOf 4 = .ok (.if_icmp .ge 24, 3) := by decide +kernel
theorem dX3_movedOf_7 : decode cX3_movedOf 7 = .ok (.aload_n 0, 1) := by decide +kernel
theorem dX3_movedOf_8 : decode cX3_movedOf 8 = .ok (.getfield 20, 3) := by decide +kernel
theorem dX3_movedOf_11 : decode cX3_movedOf 11 = .ok (.iconst 4, 1) := by decide +kernel
theorem dX3_movedOf_12 : decode cX3_movedOf 12 = .ok (.iload_n 1, 1) := by decide +kernel
theorem dX3_movedOf_13 : decode cX3_movedOf 13 = .ok (.imul, 1) := by decide +kernel
theorem dX3_movedOf_14 : decode cX3_movedOf 14 = .ok (.iload_n 2, 1) := by decide +kernel
theorem dX3_movedOf_15 : decode cX3_movedOf 15 = .ok (.iadd, 1) := by decide +kernel
theorem dX3_movedOf_16 : decode cX3_movedOf 16 = .ok (.baload, 1) := by decide +kernel
theorem dX3_movedOf_17 : decode cX3_movedOf 17 = .ok (.ifCond .eq 5, 3) := by decide +kernel
theorem dX3_movedOf_20 : decode cX3_movedOf 20 = .ok (.iload_n 2, 1) := by decide +kernel
theorem dX3_movedOf_21 : decode cX3_movedOf 21 = .ok (.ireturn, 1) := by decide +kernel
theorem dX3_movedOf_22 : decode cX3_movedOf 22 = .ok (.iinc 2 1, 3) := by decide +kernel
theorem dX3_movedOf_25 : decode cX3_movedOf 25 = .ok (.goto (-23), 3) := by decide +kernel
theorem dX3_movedOf_28 : decode cX3_movedOf 28 = .ok (.iconst 4, 1) := by decide +kernel
theorem dX3_movedOf_29 : decode cX3_movedOf 29 = .ok (.ireturn, 1) := by decide +kernel
theorem dX3_moveBack_0 : decode cX3_moveBack 0 = .ok (.iload_n 1, 1) := by decide +kernel
theorem dX3_moveBack_1 : decode cX3_moveBack 1 = .ok (.iconst 1, 1) := by decide +kernel
theorem dX3_moveBack_2 : decode cX3_moveBack 2 = .ok (.if_icmp .lt 9, 3) := by decide +kernel
theorem dX3_moveBack_5 : decode cX3_moveBack 5 = .ok (.iload_n 1, 1) := by decide +kernel
theorem dX3_moveBack_6 : decode cX3_moveBack 6 = .ok (.bipush 21, 2) := by decide +kernel
theorem dX3_moveBack_8 : decode cX3_moveBack 8 = .ok (.if_icmp .le 5, 3) := by decide +kernel
theorem dX3_moveBack_11 : decode cX3_moveBack 11 = .ok (.iconst (-1), 1) := by decide +kernel
theorem dX3_moveBack_12 : decode cX3_moveBack 12 = .ok (.ireturn, 1) := by decide +kernel
theorem dX3_moveBack_13 : decode cX3_moveBack 13 = .ok (.iconst 0, 1) := by decide +kernel
theorem dX3_moveBack_14 : decode cX3_moveBack 14 = .ok (.istore_n 2, 1) := by decide +kernel
theorem dX3_moveBack_15 : decode cX3_moveBack 15 = .ok (.iconst 0, 1) := by decide +kernel
theorem dX3_moveBack_16 : decode cX3_moveBack 16 = .ok (.istore_n 3, 1) := by decide +kernel
theorem dX3_moveBack_17 : decode cX3_moveBack 17 = .ok (.iload_n 3, 1) := by decide +kernel
theorem dX3_moveBack_18 : decode cX3_moveBack 18 = .ok (.iconst 4, 1) := by decide +kernel
theorem dX3_moveBack_19 : decode cX3_moveBack 19 = .ok (.aload_n 0, 1) := by decide +kernel
theorem dX3_moveBack_20 : decode cX3_moveBack 20 = .ok (.getfield 38, 3) := by decide +kernel
theorem dX3_moveBack_23 : decode cX3_moveBack 23 = .ok (.imul, 1) := by decide +kernel
theorem dX3_moveBack_24 : decode cX3_moveBack 24 = .ok (.if_icmp .ge 46, 3) := by decide +kernel
theorem dX3_moveBack_27 : decode cX3_moveBack 27 = .ok (.iload_n 2, 1) := by decide +kernel
theorem dX3_moveBack_28 : decode cX3_moveBack 28 = .ok (.iload_n 1, 1) := by decide +kernel
theorem dX3_moveBack_29 : decode cX3_moveBack 29 = .ok (.if_icmp .ge 41, 3) := by decide +kernel
theorem dX3_moveBack_32 : decode cX3_moveBack 32 = .ok (.aload_n 0, 1) := by decide +kernel
theorem dX3_moveBack_33 : decode cX3_moveBack 33 = .ok (.getfield 20, 3) := by decide +kernel
theorem dX3_moveBack_36 : decode cX3_moveBack 36 = .ok (.iload_n 3, 1) := by decide +kernel
theorem dX3_moveBack_37 : decode cX3_moveBack 37 = .ok (.baload, 1) := by decide +kernel
theorem dX3_moveBack_38 : decode cX3_moveBack 38 = .ok (.ifCond .eq 26, 3) := by decide +kernel
theorem dX3_moveBack_41 : decode cX3_moveBack 41 = .ok (.aload_n 0, 1) := by decide +kernel
theorem dX3_moveBack_42 : decode cX3_moveBack 42 = .ok (.getfield 23, 3) := by decide +kernel
theorem dX3_moveBack_45 : decode cX3_moveBack 45 = .ok (.aload_n 0, 1) := by decide +kernel
theorem dX3_moveBack_46 : decode cX3_moveBack 46 = .ok (.iload_n 3, 1) := by decide +kernel
theorem dX3_moveBack_47 : decode cX3_moveBack 47 = .ok (.invokevirtual 46, 3) := by decide +kernel
theorem dX3_moveBack_50 : decode cX3_moveBack 50 = .ok (.baload, 1) := by decide +kernel
theorem dX3_moveBack_51 : decode cX3_moveBack 51 = .ok (.ifCond .ne 13, 3) := by decide +kernel
theorem dX3_moveBack_54 : decode cX3_moveBack 54 = .ok (.aload_n 0, 1) := by decide +kernel
theorem dX3_moveBack_55 : decode cX3_moveBack 55 = .ok (.getfield 20, 3) := by decide +kernel
theorem dX3_moveBack_58 : decode cX3_moveBack 58 = .ok (.iload_n 3, 1) := by decide +kernel
theorem dX3_moveBack_59 : decode cX3_moveBack 59 = .ok (.iconst 0, 1) := by decide +kernel
theorem dX3_moveBack_60 : decode cX3_moveBack 60 = .ok (.bastore, 1) := by decide +kernel
theorem dX3_moveBack_61 : decode cX3_moveBack 61 = .ok (.iinc 2 1, 3) := by decide +kernel
theorem dX3_moveBack_64 : decode cX3_moveBack 64 = .ok (.iinc 3 1, 3) := by decide +kernel
theorem dX3_moveBack_67 : decode cX3_moveBack 67 = .ok (.goto (-50), 3) := by decide +kernel
theorem dX3_moveBack_70 : decode cX3_moveBack 70 = .ok (.iload_n 2, 1) := by decide +kernel
theorem dX3_moveBack_71 : decode cX3_moveBack 71 = .ok (.ireturn, 1) := by decide +kernel
theorem dX3_scrub_0 : decode cX3_scrub 0 = .ok (.iload_n 1, 1) := by decide +kernel
theorem dX3_scrub_1 : decode cX3_scrub 1 = .ok (.iconst 1, 1) := by decide +kernel
theorem dX3_scrub_2 : decode cX3_scrub 2 = .ok (.if_icmp .lt 9, 3) := by decide +kernel
theorem dX3_scrub_5 : decode cX3_scrub 5 = .ok (.iload_n 1, 1) := by decide +kernel
theorem dX3_scrub_6 : decode cX3_scrub 6 = .ok (.bipush 21, 2) := by decide +kernel
theorem dX3_scrub_8 : decode cX3_scrub 8 = .ok (.if_icmp .le 5, 3) := by decide +kernel
theorem dX3_scrub_11 : decode cX3_scrub 11 = .ok (.iconst (-1), 1) := by decide +kernel
theorem dX3_scrub_12 : decode cX3_scrub 12 = .ok (.ireturn, 1) := by decide +kernel
theorem dX3_scrub_13 : decode cX3_scrub 13 = .ok (.iconst 0, 1) := by decide +kernel
theorem dX3_scrub_14 : decode cX3_scrub 14 = .ok (.istore_n 2, 1) := by decide +kernel
theorem dX3_scrub_15 : decode cX3_scrub 15 = .ok (.iconst 0, 1) := by decide +kernel
theorem dX3_scrub_16 : decode cX3_scrub 16 = .ok (.istore_n 3, 1) := by decide +kernel
theorem dX3_scrub_17 : decode cX3_scrub 17 = .ok (.iload_n 3, 1) := by decide +kernel
theorem dX3_scrub_18 : decode cX3_scrub 18 = .ok (.iload_n 1, 1) := by decide +kernel
theorem dX3_scrub_19 : decode cX3_scrub 19 = .ok (.if_icmp .ge 35, 3) := by decide +kernel
theorem dX3_scrub_22 : decode cX3_scrub 22 = .ok (.iload_n 2, 1) := by decide +kernel
theorem dX3_scrub_23 : decode cX3_scrub 23 = .ok (.aload_n 0, 1) := by decide +kernel
theorem dX3_scrub_24 : decode cX3_scrub 24 = .ok (.aload_n 0, 1) := by decide +kernel
theorem dX3_scrub_25 : decode cX3_scrub 25 = .ok (.getfield 101, 3) := by decide +kernel
theorem dX3_scrub_28 : decode cX3_scrub 28 = .ok (.invokevirtual 81, 3) := by decide +kernel
theorem dX3_scrub_31 : decode cX3_scrub 31 = .ok (.iadd, 1) := by decide +kernel
theorem dX3_scrub_32 : decode cX3_scrub 32 = .ok (.istore_n 2, 1) := by decide +kernel
theorem dX3_scrub_33 : decode cX3_scrub 33 = .ok (.aload_n 0, 1) := by decide +kernel
theorem dX3_scrub_34 : decode cX3_scrub 34 = .ok (.aload_n 0, 1) := by decide +kernel
theorem dX3_scrub_35 : decode cX3_scrub 35 = .ok (.getfield 101, 3) := by decide +kernel
theorem dX3_scrub_38 : decode cX3_scrub 38 = .ok (.iconst 1, 1) := by decide +kernel
theorem dX3_scrub_39 : decode cX3_scrub 39 = .ok (.iadd, 1) := by decide +kernel
theorem dX3_scrub_40 : decode cX3_scrub 40 = .ok (.aload_n 0, 1) := by decide +kernel
theorem dX3_scrub_41 : decode cX3_scrub 41 = .ok (.getfield 38, 3) := by decide +kernel
theorem dX3_scrub_44 : decode cX3_scrub 44 = .ok (.irem, 1) := by decide +kernel
theorem dX3_scrub_45 : decode cX3_scrub 45 = .ok (.putfield 101, 3) := by decide +kernel
theorem dX3_scrub_48 : decode cX3_scrub 48 = .ok (.iinc 3 1, 3) := by decide +kernel
theorem dX3_scrub_51 : decode cX3_scrub 51 = .ok (.goto (-34), 3) := by decide +kernel
theorem dX3_scrub_54 : decode cX3_scrub 54 = .ok (.iload_n 2, 1) := by decide +kernel
theorem dX3_scrub_55 : decode cX3_scrub 55 = .ok (.ireturn, 1) := by decide +kernel
theorem dX3_file_0 : decode cX3_file 0 = .ok (.iload_n 1, 1) := by decide +kernel
theorem dX3_file_1 : decode cX3_file 1 = .ok (.bipush 8, 2) := by decide +kernel
theorem dX3_file_3 : decode cX3_file 3 = .ok (.invokestatic 67, 3) := by decide +kernel
theorem dX3_file_6 : decode cX3_file 6 = .ok (.ifCond .eq 12, 3) := by decide +kernel
theorem dX3_file_9 : decode cX3_file 9 = .ok (.iload_n 2, 1) := by decide +kernel
theorem dX3_file_10 : decode cX3_file 10 = .ok (.bipush 8, 2) := by decide +kernel
theorem dX3_file_12 : decode cX3_file 12 = .ok (.invokestatic 67, 3) := by decide +kernel
theorem dX3_file_15 : decode cX3_file 15 = .ok (.ifCond .ne 5, 3) := by decide +kernel
theorem dX3_file_18 : decode cX3_file 18 = .ok (.iconst (-1), 1) := by decide +kernel
theorem dX3_file_19 : decode cX3_file 19 = .ok (.ireturn, 1) := by decide +kernel
theorem dX3_file_20 : decode cX3_file 20 = .ok (.iload_n 2, 1) := by decide +kernel
theorem dX3_file_21 : decode cX3_file 21 = .ok (.ifCond .ne 9, 3) := by decide +kernel
theorem dX3_file_24 : decode cX3_file 24 = .ok (.aload_n 0, 1) := by decide +kernel
theorem dX3_file_25 : decode cX3_file 25 = .ok (.iload_n 1, 1) := by decide +kernel
theorem dX3_file_26 : decode cX3_file 26 = .ok (.invokevirtual 104, 3) := by decide +kernel
theorem dX3_file_29 : decode cX3_file 29 = .ok (.ireturn, 1) := by decide +kernel
theorem dX3_file_30 : decode cX3_file 30 = .ok (.iload_n 2, 1) := by decide +kernel
theorem dX3_file_31 : decode cX3_file 31 = .ok (.iconst 1, 1) := by decide +kernel
theorem dX3_file_32 : decode cX3_file 32 = .ok (.if_icmp .ne 10, 3) := by decide +kernel
theorem dX3_file_35 : decode cX3_file 35 = .ok (.aload_n 0, 1) := by decide +kernel
theorem dX3_file_36 : decode cX3_file 36 = .ok (.getfield 35, 3) := by decide +kernel
theorem dX3_file_39 : decode cX3_file 39 = .ok (.iload_n 1, 1) := by decide +kernel
theorem dX3_file_40 : decode cX3_file 40 = .ok (.iaload, 1) := by decide +kernel
theorem dX3_file_41 : decode cX3_file 41 = .ok (.ireturn, 1) := by decide +kernel
theorem dX3_file_42 : decode cX3_file 42 = .ok (.iload_n 2, 1) := by decide +kernel
theorem dX3_file_43 : decode cX3_file 43 = .ok (.iconst 2, 1) := by decide +kernel
theorem dX3_file_44 : decode cX3_file 44 = .ok (.idiv, 1) := by decide +kernel
theorem dX3_file_45 : decode cX3_file 45 = .ok (.iconst 1, 1) := by decide +kernel
theorem dX3_file_46 : decode cX3_file 46 = .ok (.isub, 1) := by decide +kernel
theorem dX3_file_47 : decode cX3_file 47 = .ok (.istore_n 3, 1) := by decide +kernel
theorem dX3_file_48 : decode cX3_file 48 = .ok (.iload_n 3, 1) := by decide +kernel
theorem dX3_file_49 : decode cX3_file 49 = .ok (.aload_n 0, 1) := by decide +kernel
theorem dX3_file_50 : decode cX3_file 50 = .ok (.getfield 35, 3) := by decide +kernel
theorem dX3_file_53 : decode cX3_file 53 = .ok (.iload_n 1, 1) := by decide +kernel
theorem dX3_file_54 : decode cX3_file 54 = .ok (.iaload, 1) := by decide +kernel
theorem dX3_file_55 : decode cX3_file 55 = .ok (.if_icmp .lt 5, 3) := by decide +kernel
theorem dX3_file_58 : decode cX3_file 58 = .ok (.iconst (-1), 1) := by decide +kernel
theorem dX3_file_59 : decode cX3_file 59 = .ok (.ireturn, 1) := by decide +kernel
theorem dX3_file_60 : decode cX3_file 60 = .ok (.iload_n 2, 1) := by decide +kernel
theorem dX3_file_61 : decode cX3_file 61 = .ok (.iconst 2, 1) := by decide +kernel
theorem dX3_file_62 : decode cX3_file 62 = .ok (.irem, 1) := by decide +kernel
theorem dX3_file_63 : decode cX3_file 63 = .ok (.ifCond .ne 16, 3) := by decide +kernel
theorem dX3_file_66 : decode cX3_file 66 = .ok (.aload_n 0, 1) := by decide +kernel
theorem dX3_file_67 : decode cX3_file 67 = .ok (.getfield 29, 3) := by decide +kernel
theorem dX3_file_70 : decode cX3_file 70 = .ok (.iconst 3, 1) := by decide +kernel
theorem dX3_file_71 : decode cX3_file 71 = .ok (.iload_n 1, 1) := by decide +kernel
theorem dX3_file_72 : decode cX3_file 72 = .ok (.imul, 1) := by decide +kernel
theorem dX3_file_73 : decode cX3_file 73 = .ok (.iload_n 3, 1) := by decide +kernel
theorem dX3_file_74 : decode cX3_file 74 = .ok (.iadd, 1) := by decide +kernel
theorem dX3_file_75 : decode cX3_file 75 = .ok (.iaload, 1) := by decide +kernel
theorem dX3_file_76 : decode cX3_file 76 = .ok (.goto 13, 3) := by decide +kernel
theorem dX3_file_79 : decode cX3_file 79 = .ok (.aload_n 0, 1) := by decide +kernel
theorem dX3_file_80 : decode cX3_file 80 = .ok (.getfield 32, 3) := by decide +kernel
theorem dX3_file_83 : decode cX3_file 83 = .ok (.iconst 3, 1) := by decide +kernel
theorem dX3_file_84 : decode cX3_file 84 = .ok (.iload_n 1, 1) := by decide +kernel
theorem dX3_file_85 : decode cX3_file 85 = .ok (.imul, 1) := by decide +kernel
theorem dX3_file_86 : decode cX3_file 86 = .ok (.iload_n 3, 1) := by decide +kernel
theorem dX3_file_87 : decode cX3_file 87 = .ok (.iadd, 1) := by decide +kernel
theorem dX3_file_88 : decode cX3_file 88 = .ok (.iaload, 1) := by decide +kernel
theorem dX3_file_89 : decode cX3_file 89 = .ok (.ireturn, 1) := by decide +kernel
theorem dX3_length_0 : decode cX3_length 0 = .ok (.iconst 0, 1) := by decide +kernel
theorem dX3_length_1 : decode cX3_length 1 = .ok (.istore_n 2, 1) := by decide +kernel
theorem dX3_length_2 : decode cX3_length 2 = .ok (.iconst 0, 1) := by decide +kernel
theorem dX3_length_3 : decode cX3_length 3 = .ok (.istore_n 3, 1) := by decide +kernel
theorem dX3_length_4 : decode cX3_length 4 = .ok (.iload_n 3, 1) := by decide +kernel
theorem dX3_length_5 : decode cX3_length 5 = .ok (.aload_n 0, 1) := by decide +kernel
theorem dX3_length_6 : decode cX3_length 6 = .ok (.getfield 35, 3) := by decide +kernel
theorem dX3_length_9 : decode cX3_length 9 = .ok (.iload_n 1, 1) := by decide +kernel
theorem dX3_length_10 : decode cX3_length 10 = .ok (.iaload, 1) := by decide +kernel
theorem dX3_length_11 : decode cX3_length 11 = .ok (.if_icmp .ge 22, 3) := by decide +kernel
theorem dX3_length_14 : decode cX3_length 14 = .ok (.iload_n 2, 1) := by decide +kernel
theorem dX3_length_15 : decode cX3_length 15 = .ok (.aload_n 0, 1) := by decide +kernel
theorem dX3_length_16 : decode cX3_length 16 = .ok (.getfield 32, 3) := by decide +kernel
theorem dX3_length_19 : decode cX3_length 19 = .ok (.iconst 3, 1) := by decide +kernel
theorem dX3_length_20 : decode cX3_length 20 = .ok (.iload_n 1, 1) := by decide +kernel
theorem dX3_length_21 : decode cX3_length 21 = .ok (.imul, 1) := by decide +kernel
theorem dX3_length_22 : decode cX3_length 22 = .ok (.iload_n 3, 1) := by decide +kernel
theorem dX3_length_23 : decode cX3_length 23 = .ok (.iadd, 1) := by decide +kernel
theorem dX3_length_24 : decode cX3_length 24 = .ok (.iaload, 1) := by decide +kernel
theorem dX3_length_25 : decode cX3_length 25 = .ok (.iadd, 1) := by decide +kernel
theorem dX3_length_26 : decode cX3_length 26 = .ok (.istore_n 2, 1) := by decide +kernel
theorem dX3_length_27 : decode cX3_length 27 = .ok (.iinc 3 1, 3) := by decide +kernel
theorem dX3_length_30 : decode cX3_length 30 = .ok (.goto (-26), 3) := by decide +kernel
theorem dX3_length_33 : decode cX3_length 33 = .ok (.iload_n 2, 1) := by decide +kernel
theorem dX3_length_34 : decode cX3_length 34 = .ok (.ireturn, 1) := by decide +kernel
theorem dX3_stripe_0 : decode cX3_stripe 0 = .ok (.iload_n 1, 1) := by decide +kernel
theorem dX3_stripe_1 : decode cX3_stripe 1 = .ok (.aload_n 0, 1) := by decide +kernel
theorem dX3_stripe_2 : decode cX3_stripe 2 = .ok (.getfield 38, 3) := by decide +kernel
theorem dX3_stripe_5 : decode cX3_stripe 5 = .ok (.invokestatic 67, 3) := by decide +kernel
theorem dX3_stripe_8 : decode cX3_stripe 8 = .ok (.ifCond .eq 12, 3) := by decide +kernel
theorem dX3_stripe_11 : decode cX3_stripe 11 = .ok (.iload_n 2, 1) := by decide +kernel
theorem dX3_stripe_12 : decode cX3_stripe 12 = .ok (.bipush 6, 2) := by decide +kernel
theorem dX3_stripe_14 : decode cX3_stripe 14 = .ok (.invokestatic 67, 3) := by decide +kernel
theorem dX3_stripe_17 : decode cX3_stripe 17 = .ok (.ifCond .ne 5, 3) := by decide +kernel
theorem dX3_stripe_20 : decode cX3_stripe 20 = .ok (.iconst (-1), 1) := by decide +kernel
theorem dX3_stripe_21 : decode cX3_stripe 21 = .ok (.ireturn, 1) := by decide +kernel
theorem dX3_stripe_22 : decode cX3_stripe 22 = .ok (.iload_n 2, 1) := by decide +kernel
theorem dX3_stripe_23 : decode cX3_stripe 23 = .ok (.iconst 4, 1) := by decide +kernel
theorem dX3_stripe_24 : decode cX3_stripe 24 = .ok (.if_icmp .ne 9, 3) := by decide +kernel
theorem dX3_stripe_27 : decode cX3_stripe 27 = .ok (.aload_n 0, 1) := by decide +kernel
theorem dX3_stripe_28 : decode cX3_stripe 28 = .ok (.iload_n 1, 1) := by decide +kernel
theorem dX3_stripe_29 : decode cX3_stripe 29 = .ok (.invokevirtual 95, 3) := by decide +kernel
theorem dX3_stripe_32 : decode cX3_stripe 32 = .ok (.ireturn, 1) := by decide +kernel
theorem dX3_stripe_33 : decode cX3_stripe 33 = .ok (.iload_n 2, 1) := by decide +kernel
theorem dX3_stripe_34 : decode cX3_stripe 34 = .ok (.iconst 5, 1) := by decide +kernel
theorem dX3_stripe_35 : decode cX3_stripe 35 = .ok (.if_icmp .ne 17, 3) := by decide +kernel
theorem dX3_stripe_38 : decode cX3_stripe 38 = .ok (.aload_n 0, 1) := by decide +kernel
theorem dX3_stripe_39 : decode cX3_stripe 39 = .ok (.iload_n 1, 1) := by decide +kernel
theorem dX3_stripe_40 : decode cX3_stripe 40 = .ok (.invokevirtual 53, 3) := by decide +kernel
theorem dX3_stripe_43 : decode cX3_stripe 43 = .ok (.ifCond .eq 7, 3) := by decide +kernel
theorem dX3_stripe_46 : decode cX3_stripe 46 = .ok (.iconst 1, 1) := by decide +kernel
theorem dX3_stripe_47 : decode cX3_stripe 47 = .ok (.goto 4, 3) := by decide +kernel
theorem dX3_stripe_50 : decode cX3_stripe 50 = .ok (.iconst 0, 1) := by decide +kernel
theorem dX3_stripe_51 : decode cX3_stripe 51 = .ok (.ireturn, 1) := by decide +kernel
theorem dX3_stripe_52 : decode cX3_stripe 52 = .ok (.iconst 4, 1) := by decide +kernel
theorem dX3_stripe_53 : decode cX3_stripe 53 = .ok (.iload_n 1, 1) := by decide +kernel
theorem dX3_stripe_54 : decode cX3_stripe 54 = .ok (.imul, 1) := by decide +kernel
theorem dX3_stripe_55 : decode cX3_stripe 55 = .ok (.iload_n 2, 1) := by decide +kernel
theorem dX3_stripe_56 : decode cX3_stripe 56 = .ok (.iadd, 1) := by decide +kernel
theorem dX3_stripe_57 : decode cX3_stripe 57 = .ok (.istore_n 3, 1) := by decide +kernel
theorem dX3_stripe_58 : decode cX3_stripe 58 = .ok (.aload_n 0, 1) := by decide +kernel
theorem dX3_stripe_59 : decode cX3_stripe 59 = .ok (.getfield 16, 3) := by decide +kernel
theorem dX3_stripe_62 : decode cX3_stripe 62 = .ok (.iload_n 3, 1) := by decide +kernel
theorem dX3_stripe_63 : decode cX3_stripe 63 = .ok (.baload, 1) := by decide +kernel
theorem dX3_stripe_64 : decode cX3_stripe 64 = .ok (.ifCond .eq 7, 3) := by decide +kernel
theorem dX3_stripe_67 : decode cX3_stripe 67 = .ok (.iconst 2, 1) := by decide +kernel
theorem dX3_stripe_68 : decode cX3_stripe 68 = .ok (.goto 16, 3) := by decide +kernel
theorem dX3_stripe_71 : decode cX3_stripe 71 = .ok (.aload_n 0, 1) := by decide +kernel
theorem dX3_stripe_72 : decode cX3_stripe 72 = .ok (.iload_n 3, 1) := by decide +kernel
theorem dX3_stripe_73 : decode cX3_stripe 73 = .ok (.invokevirtual 49, 3) := by decide +kernel
theorem dX3_stripe_76 : decode cX3_stripe 76 = .ok (.ifCond .eq 7, 3) := by decide +kernel
theorem dX3_stripe_79 : decode cX3_stripe 79 = .ok (.iconst 1, 1) := by decide +kernel
theorem dX3_stripe_80 : decode cX3_stripe 80 = .ok (.goto 4, 3) := by decide +kernel
theorem dX3_stripe_83 : decode cX3_stripe 83 = .ok (.iconst 0, 1) := by decide +kernel
theorem dX3_stripe_84 : decode cX3_stripe 84 = .ok (.ireturn, 1) := by decide +kernel
theorem dX3_disk_0 : decode cX3_disk 0 = .ok (.iload_n 1, 1) := by decide +kernel
theorem dX3_disk_1 : decode cX3_disk 1 = .ok (.bipush 7, 2) := by decide +kernel
theorem dX3_disk_3 : decode cX3_disk 3 = .ok (.invokestatic 67, 3) := by decide +kernel
theorem dX3_disk_6 : decode cX3_disk 6 = .ok (.ifCond .eq 11, 3) := by decide +kernel
theorem dX3_disk_9 : decode cX3_disk 9 = .ok (.iload_n 2, 1) := by decide +kernel
theorem dX3_disk_10 : decode cX3_disk 10 = .ok (.iconst 3, 1) := by decide +kernel
theorem dX3_disk_11 : decode cX3_disk 11 = .ok (.invokestatic 67, 3) := by decide +kernel
theorem dX3_disk_14 : decode cX3_disk 14 = .ok (.ifCond .ne 5, 3) := by decide +kernel
theorem dX3_disk_17 : decode cX3_disk 17 = .ok (.iconst (-1), 1) := by decide +kernel
theorem dX3_disk_18 : decode cX3_disk 18 = .ok (.ireturn, 1) := by decide +kernel
theorem dX3_disk_19 : decode cX3_disk 19 = .ok (.iload_n 2, 1) := by decide +kernel
theorem dX3_disk_20 : decode cX3_disk 20 = .ok (.ifCond .ne 18, 3) := by decide +kernel
theorem dX3_disk_23 : decode cX3_disk 23 = .ok (.aload_n 0, 1) := by decide +kernel
theorem dX3_disk_24 : decode cX3_disk 24 = .ok (.getfield 23, 3) := by decide +kernel
theorem dX3_disk_27 : decode cX3_disk 27 = .ok (.iload_n 1, 1) := by decide +kernel
theorem dX3_disk_28 : decode cX3_disk 28 = .ok (.baload, 1) := by decide +kernel
theorem dX3_disk_29 : decode cX3_disk 29 = .ok (.ifCond .eq 7, 3) := by decide +kernel
theorem dX3_disk_32 : decode cX3_disk 32 = .ok (.iconst 0, 1) := by decide +kernel
theorem dX3_disk_33 : decode cX3_disk 33 = .ok (.goto 4, 3) := by decide +kernel
theorem dX3_disk_36 : decode cX3_disk 36 = .ok (.iconst 1, 1) := by decide +kernel
theorem dX3_disk_37 : decode cX3_disk 37 = .ok (.ireturn, 1) := by decide +kernel
theorem dX3_disk_38 : decode cX3_disk 38 = .ok (.iconst 0, 1) := by decide +kernel
theorem dX3_disk_39 : decode cX3_disk 39 = .ok (.istore_n 3, 1) := by decide +kernel
theorem dX3_disk_40 : decode cX3_disk 40 = .ok (.iconst 0, 1) := by decide +kernel
theorem dX3_disk_41 : decode cX3_disk 41 = .ok (.istore 4, 2) := by decide +kernel
theorem dX3_disk_43 : decode cX3_disk 43 = .ok (.iload 4, 2) := by decide +kernel
theorem dX3_disk_45 : decode cX3_disk 45 = .ok (.iconst 4, 1) := by decide +kernel
theorem dX3_disk_46 : decode cX3_disk 46 = .ok (.aload_n 0, 1) := by decide +kernel
theorem dX3_disk_47 : decode cX3_disk 47 = .ok (.getfield 38, 3) := by decide +kernel
theorem dX3_disk_50 : decode cX3_disk 50 = .ok (.imul, 1) := by decide +kernel
theorem dX3_disk_51 : decode cX3_disk 51 = .ok (.if_icmp .ge 37, 3) := by decide +kernel
theorem dX3_disk_54 : decode cX3_disk 54 = .ok (.aload_n 0, 1) := by decide +kernel
theorem dX3_disk_55 : decode cX3_disk 55 = .ok (.iload 4, 2) := by decide +kernel
theorem dX3_disk_57 : decode cX3_disk 57 = .ok (.invokevirtual 92, 3) := by decide +kernel
theorem dX3_disk_60 : decode cX3_disk 60 = .ok (.iload_n 1, 1) := by decide +kernel
theorem dX3_disk_61 : decode cX3_disk 61 = .ok (.if_icmp .ne 21, 3) := by decide +kernel
theorem dX3_disk_64 : decode cX3_disk 64 = .ok (.iload_n 2, 1) := by decide +kernel
theorem dX3_disk_65 : decode cX3_disk 65 = .ok (.iconst 1, 1) := by decide +kernel
theorem dX3_disk_66 : decode cX3_disk 66 = .ok (.if_icmp .eq 13, 3) := by decide +kernel
theorem dX3_disk_69 : decode cX3_disk 69 = .ok (.aload_n 0, 1) := by decide +kernel
theorem dX3_disk_70 : decode cX3_disk 70 = .ok (.getfield 20, 3) := by decide +kernel
theorem dX3_disk_73 : decode cX3_disk 73 = .ok (.iload 4, 2) := by decide +kernel
theorem dX3_disk_75 : decode cX3_disk 75 = .ok (.baload, 1) := by decide +kernel
theorem dX3_disk_76 : decode cX3_disk 76 = .ok (.ifCond .eq 6, 3) := by decide +kernel
theorem dX3_disk_79 : decode cX3_disk 79 = .ok (.iinc 3 1, 3) := by decide +kernel
theorem dX3_disk_82 : decode cX3_disk 82 = .ok (.iinc 4 1, 3) := by decide +kernel
theorem dX3_disk_85 : decode cX3_disk 85 = .ok (.goto (-42), 3) := by decide +kernel
theorem dX3_disk_88 : decode cX3_disk 88 = .ok (.iload_n 3, 1) := by decide +kernel
theorem dX3_disk_89 : decode cX3_disk 89 = .ok (.ireturn, 1) := by decide +kernel
theorem dX3_count_0 : decode cX3_count 0 = .ok (.iload_n 1, 1) := by decide +kernel
theorem dX3_count_1 : decode cX3_count 1 = .ok (.ifCond .ne 8, 3) := by decide +kernel
theorem dX3_count_4 : decode cX3_count 4 = .ok (.aload_n 0, 1) := by decide +kernel
theorem dX3_count_5 : decode cX3_count 5 = .ok (.invokevirtual 107, 3) := by decide +kernel
theorem dX3_count_8 : decode cX3_count 8 = .ok (.ireturn, 1) := by decide +kernel
theorem dX3_count_9 : decode cX3_count 9 = .ok (.iload_n 1, 1) := by decide +kernel
theorem dX3_count_10 : decode cX3_count 10 = .ok (.iconst 1, 1) := by decide +kernel
theorem dX3_count_11 : decode cX3_count 11 = .ok (.if_icmp .ne 12, 3) := by decide +kernel
theorem dX3_count_14 : decode cX3_count 14 = .ok (.aload_n 0, 1) := by decide +kernel
theorem dX3_count_15 : decode cX3_count 15 = .ok (.aload_n 0, 1) := by decide +kernel
theorem dX3_count_16 : decode cX3_count 16 = .ok (.invokevirtual 63, 3) := by decide +kernel
theorem dX3_count_19 : decode cX3_count 19 = .ok (.invokevirtual 56, 3) := by decide +kernel
theorem dX3_count_22 : decode cX3_count 22 = .ok (.ireturn, 1) := by decide +kernel
theorem dX3_count_23 : decode cX3_count 23 = .ok (.iload_n 1, 1) := by decide +kernel
theorem dX3_count_24 : decode cX3_count 24 = .ok (.iconst 2, 1) := by decide +kernel
theorem dX3_count_25 : decode cX3_count 25 = .ok (.if_icmp .ne 9, 3) := by decide +kernel
theorem dX3_count_28 : decode cX3_count 28 = .ok (.aload_n 0, 1) := by decide +kernel
theorem dX3_count_29 : decode cX3_count 29 = .ok (.iconst 1, 1) := by decide +kernel
theorem dX3_count_30 : decode cX3_count 30 = .ok (.invokevirtual 110, 3) := by decide +kernel
theorem dX3_count_33 : decode cX3_count 33 = .ok (.ireturn, 1) := by decide +kernel
theorem dX3_count_34 : decode cX3_count 34 = .ok (.iload_n 1, 1) := by decide +kernel
theorem dX3_count_35 : decode cX3_count 35 = .ok (.iconst 3, 1) := by decide +kernel
theorem dX3_count_36 : decode cX3_count 36 = .ok (.if_icmp .ne 9, 3) := by decide +kernel
theorem dX3_count_39 : decode cX3_count 39 = .ok (.aload_n 0, 1) := by decide +kernel
theorem dX3_count_40 : decode cX3_count 40 = .ok (.iconst 0, 1) := by decide +kernel
theorem dX3_count_41 : decode cX3_count 41 = .ok (.invokevirtual 110, 3) := by decide +kernel
theorem dX3_count_44 : decode cX3_count 44 = .ok (.ireturn, 1) := by decide +kernel
theorem dX3_count_45 : decode cX3_count 45 = .ok (.iload_n 1, 1) := by decide +kernel
theorem dX3_count_46 : decode cX3_count 46 = .ok (.iconst 5, 1) := by decide +kernel
theorem dX3_count_47 : decode cX3_count 47 = .ok (.if_icmp .ne 8, 3) := by decide +kernel
theorem dX3_count_50 : decode cX3_count 50 = .ok (.aload_n 0, 1) := by decide +kernel
theorem dX3_count_51 : decode cX3_count 51 = .ok (.getfield 101, 3) := by decide +kernel
theorem dX3_count_54 : decode cX3_count 54 = .ok (.ireturn, 1) := by decide +kernel
theorem dX3_count_55 : decode cX3_count 55 = .ok (.iload_n 1, 1) := by decide +kernel
theorem dX3_count_56 : decode cX3_count 56 = .ok (.iconst 4, 1) := by decide +kernel
theorem dX3_count_57 : decode cX3_count 57 = .ok (.if_icmp .eq 11, 3) := by decide +kernel
theorem dX3_count_60 : decode cX3_count 60 = .ok (.iload_n 1, 1) := by decide +kernel
theorem dX3_count_61 : decode cX3_count 61 = .ok (.bipush 6, 2) := by decide +kernel
theorem dX3_count_63 : decode cX3_count 63 = .ok (.if_icmp .eq 5, 3) := by decide +kernel
theorem dX3_count_66 : decode cX3_count 66 = .ok (.iconst (-1), 1) := by decide +kernel
theorem dX3_count_67 : decode cX3_count 67 = .ok (.ireturn, 1) := by decide +kernel
theorem dX3_count_68 : decode cX3_count 68 = .ok (.iconst 0, 1) := by decide +kernel
theorem dX3_count_69 : decode cX3_count 69 = .ok (.istore_n 2, 1) := by decide +kernel
theorem dX3_count_70 : decode cX3_count 70 = .ok (.iconst 0, 1) := by decide +kernel
theorem dX3_count_71 : decode cX3_count 71 = .ok (.istore_n 3, 1) := by decide +kernel
theorem dX3_count_72 : decode cX3_count 72 = .ok (.iload_n 3, 1) := by decide +kernel
theorem dX3_count_73 : decode cX3_count 73 = .ok (.aload_n 0, 1) := by decide +kernel
theorem dX3_count_74 : decode cX3_count 74 = .ok (.getfield 38, 3) := by decide +kernel
theorem dX3_count_77 : decode cX3_count 77 = .ok (.if_icmp .ge 25, 3) := by decide +kernel
theorem dX3_count_80 : decode cX3_count 80 = .ok (.iload_n 1, 1) := by decide +kernel
theorem dX3_count_81 : decode cX3_count 81 = .ok (.iconst 4, 1) := by decide +kernel
theorem dX3_count_82 : decode cX3_count 82 = .ok (.if_icmp .ne 14, 3) := by decide +kernel
theorem dX3_count_85 : decode cX3_count 85 = .ok (.aload_n 0, 1) := by decide +kernel
theorem dX3_count_86 : decode cX3_count 86 = .ok (.iload_n 3, 1) := by decide +kernel
theorem dX3_count_87 : decode cX3_count 87 = .ok (.invokevirtual 53, 3) := by decide +kernel
theorem dX3_count_90 : decode cX3_count 90 = .ok (.ifCond .eq 6, 3) := by decide +kernel
theorem dX3_count_93 : decode cX3_count 93 = .ok (.iinc 2 1, 3) := by decide +kernel
theorem dX3_count_96 : decode cX3_count 96 = .ok (.iinc 3 1, 3) := by decide +kernel
theorem dX3_count_99 : decode cX3_count 99 = .ok (.goto (-27), 3) := by decide +kernel
theorem dX3_count_102 : decode cX3_count 102 = .ok (.iconst 0, 1) := by decide +kernel
theorem dX3_count_103 : decode cX3_count 103 = .ok (.istore_n 3, 1) := by decide +kernel
theorem dX3_count_104 : decode cX3_count 104 = .ok (.iload_n 3, 1) := by decide +kernel
theorem dX3_count_105 : decode cX3_count 105 = .ok (.iconst 3, 1) := by decide +kernel
theorem dX3_count_106 : decode cX3_count 106 = .ok (.aload_n 0, 1) := by decide +kernel
theorem dX3_count_107 : decode cX3_count 107 = .ok (.getfield 38, 3) := by decide +kernel
theorem dX3_count_110 : decode cX3_count 110 = .ok (.imul, 1) := by decide +kernel
theorem dX3_count_111 : decode cX3_count 111 = .ok (.if_icmp .ge 26, 3) := by decide +kernel
theorem dX3_count_114 : decode cX3_count 114 = .ok (.iload_n 1, 1) := by decide +kernel
theorem dX3_count_115 : decode cX3_count 115 = .ok (.bipush 6, 2) := by decide +kernel
theorem dX3_count_117 : decode cX3_count 117 = .ok (.if_icmp .ne 14, 3) := by decide +kernel
theorem dX3_count_120 : decode cX3_count 120 = .ok (.aload_n 0, 1) := by decide +kernel
theorem dX3_count_121 : decode cX3_count 121 = .ok (.iload_n 3, 1) := by decide +kernel
theorem dX3_count_122 : decode cX3_count 122 = .ok (.invokevirtual 56, 3) := by decide +kernel
theorem dX3_count_125 : decode cX3_count 125 = .ok (.ifCond .le 6, 3) := by decide +kernel
theorem dX3_count_128 : decode cX3_count 128 = .ok (.iinc 2 1, 3) := by decide +kernel
theorem dX3_count_131 : decode cX3_count 131 = .ok (.iinc 3 1, 3) := by decide +kernel
theorem dX3_count_134 : decode cX3_count 134 = .ok (.goto (-30), 3) := by decide +kernel
theorem dX3_count_137 : decode cX3_count 137 = .ok (.iload_n 2, 1) := by decide +kernel
theorem dX3_count_138 : decode cX3_count 138 = .ok (.ireturn, 1) := by decide +kernel
theorem dX3_free_0 : decode cX3_free 0 = .ok (.iconst 0, 1) := by decide +kernel
theorem dX3_free_1 : decode cX3_free 1 = .ok (.istore_n 1, 1) := by decide +kernel
theorem dX3_free_2 : decode cX3_free 2 = .ok (.iconst 0, 1) := by decide +kernel
theorem dX3_free_3 : decode cX3_free 3 = .ok (.istore_n 2, 1) := by decide +kernel
theorem dX3_free_4 : decode cX3_free 4 = .ok (.iload_n 2, 1) := by decide +kernel
theorem dX3_free_5 : decode cX3_free 5 = .ok (.iconst 3, 1) := by decide +kernel
theorem dX3_free_6 : decode cX3_free 6 = .ok (.aload_n 0, 1) := by decide +kernel
theorem dX3_free_7 : decode cX3_free 7 = .ok (.getfield 38, 3) := by decide +kernel
theorem dX3_free_10 : decode cX3_free 10 = .ok (.imul, 1) := by decide +kernel
theorem dX3_free_11 : decode cX3_free 11 = .ok (.if_icmp .ge 21, 3) := by decide +kernel
theorem dX3_free_14 : decode cX3_free 14 = .ok (.aload_n 0, 1) := by decide +kernel
theorem dX3_free_15 : decode cX3_free 15 = .ok (.getfield 26, 3) := by decide +kernel
theorem dX3_free_18 : decode cX3_free 18 = .ok (.iload_n 2, 1) := by decide +kernel
theorem dX3_free_19 : decode cX3_free 19 = .ok (.iaload, 1) := by decide +kernel
theorem dX3_free_20 : decode cX3_free 20 = .ok (.ifCond .ne 6, 3) := by decide +kernel
theorem dX3_free_23 : decode cX3_free 23 = .ok (.iinc 1 1, 3) := by decide +kernel
theorem dX3_free_26 : decode cX3_free 26 = .ok (.iinc 2 1, 3) := by decide +kernel
theorem dX3_free_29 : decode cX3_free 29 = .ok (.goto (-25), 3) := by decide +kernel
theorem dX3_free_32 : decode cX3_free 32 = .ok (.iload_n 1, 1) := by decide +kernel
theorem dX3_free_33 : decode cX3_free 33 = .ok (.ireturn, 1) := by decide +kernel
theorem dX3_columns_0 : decode cX3_columns 0 = .ok (.iconst 0, 1) := by decide +kernel
theorem dX3_columns_1 : decode cX3_columns 1 = .ok (.istore_n 2, 1) := by decide +kernel
theorem dX3_columns_2 : decode cX3_columns 2 = .ok (.iconst 0, 1) := by decide +kernel
theorem dX3_columns_3 : decode cX3_columns 3 = .ok (.istore_n 3, 1) := by decide +kernel
theorem dX3_columns_4 : decode cX3_columns 4 = .ok (.iload_n 3, 1) := by decide +kernel
theorem dX3_columns_5 : decode cX3_columns 5 = .ok (.iconst 4, 1) := by decide +kernel
theorem dX3_columns_6 : decode cX3_columns 6 = .ok (.aload_n 0, 1) := by decide +kernel
theorem dX3_columns_7 : decode cX3_columns 7 = .ok (.getfield 38, 3) := by decide +kernel
theorem dX3_columns_10 : decode cX3_columns 10 = .ok (.imul, 1) := by decide +kernel
theorem dX3_columns_11 : decode cX3_columns 11 = .ok (.if_icmp .ge 36, 3) := by decide +kernel
theorem dX3_columns_14 : decode cX3_columns 14 = .ok (.iload_n 1, 1) := by decide +kernel
theorem dX3_columns_15 : decode cX3_columns 15 = .ok (.ifCond .eq 15, 3) := by decide +kernel
theorem dX3_columns_18 : decode cX3_columns 18 = .ok (.aload_n 0, 1) := by decide +kernel
theorem dX3_columns_19 : decode cX3_columns 19 = .ok (.getfield 16, 3) := by decide +kernel
theorem dX3_columns_22 : decode cX3_columns 22 = .ok (.iload_n 3, 1) := by decide +kernel
theorem dX3_columns_23 : decode cX3_columns 23 = .ok (.baload, 1) := by decide +kernel
theorem dX3_columns_24 : decode cX3_columns 24 = .ok (.ifCond .eq 17, 3) := by decide +kernel
theorem dX3_columns_27 : decode cX3_columns 27 = .ok (.goto 11, 3) := by decide +kernel
theorem dX3_columns_30 : decode cX3_columns 30 = .ok (.aload_n 0, 1) := by decide +kernel
theorem dX3_columns_31 : decode cX3_columns 31 = .ok (.iload_n 3, 1) := by decide +kernel
theorem dX3_columns_32 : decode cX3_columns 32 = .ok (.invokevirtual 49, 3) := by decide +kernel
theorem dX3_columns_35 : decode cX3_columns 35 = .ok (.ifCond .eq 6, 3) := by decide +kernel
theorem dX3_columns_38 : decode cX3_columns 38 = .ok (.iinc 2 1, 3) := by decide +kernel
theorem dX3_columns_41 : decode cX3_columns 41 = .ok (.iinc 3 1, 3) := by decide +kernel
theorem dX3_columns_44 : decode cX3_columns 44 = .ok (.goto (-40), 3) := by decide +kernel
theorem dX3_columns_47 : decode cX3_columns 47 = .ok (.iload_n 2, 1) := by decide +kernel
theorem dX3_columns_48 : decode cX3_columns 48 = .ok (.ireturn, 1) := by decide +kernel
