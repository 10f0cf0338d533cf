theorem dX2_init_0 : decode cX2_init 0 = .ok (.aload_n 0, 1) := by decide +kernel
theorem dX2_init_1 : decode cX2_init 1 = .ok (.invokespecial 1, 3) := by decide +kernel
theorem dX2_init_4 : decode cX2_init 4 = .ok (.bipush 7, 2) := by decide +kernel
theorem dX2_init_6 : decode cX2_init 6 = .ok (.iconst 1, 1) := by decide +kernel
theorem dX2_init_7 : decode cX2_init 7 = .ok (.iconst 3, 1) := by decide +kernel
theorem dX2_init_8 : decode cX2_init 8 = .ok (.iload_n 1, 1) := by decide +kernel
theorem dX2_init_9 : decode cX2_init 9 = .ok (.invokestatic 9, 3) := by decide +kernel
theorem dX2_init_12 : decode cX2_init 12 = .ok (.invokestatic 15, 3) := by decide +kernel
theorem dX2_init_15 : decode cX2_init 15 = .ok (.imul, 1) := by decide +kernel
theorem dX2_init_16 : decode cX2_init 16 = .ok (.istore_n 2, 1) := by decide +kernel
theorem dX2_init_17 : decode cX2_init 17 = .ok (.aload_n 0, 1) := by decide +kernel
theorem dX2_init_18 : decode cX2_init 18 = .ok (.new 18, 3) := by decide +kernel
theorem dX2_init_21 : decode cX2_init 21 = .ok (.dup, 1) := by decide +kernel
theorem dX2_init_22 : decode cX2_init 22 = .ok (.iload_n 2, 1) := by decide +kernel
theorem dX2_init_23 : decode cX2_init 23 = .ok (.invokespecial 20, 3) := by decide +kernel
theorem dX2_init_26 : decode cX2_init 26 = .ok (.putfield 23, 3) := by decide +kernel
theorem dX2_init_29 : decode cX2_init 29 = .ok (.aload_n 0, 1) := by decide +kernel
theorem dX2_init_30 : decode cX2_init 30 = .ok (.new 27, 3) := by decide +kernel
theorem dX2_init_33 : decode cX2_init 33 = .ok (.dup, 1) := by decide +kernel
theorem dX2_init_34 : decode cX2_init 34 = .ok (.iload_n 2, 1) := by decide +kernel
theorem dX2_init_35 : decode cX2_init 35 = .ok (.iconst 3, 1) := by decide +kernel
theorem dX2_init_36 : decode cX2_init 36 = .ok (.imul, 1) := by decide +kernel
theorem dX2_init_37 : decode cX2_init 37 = .ok (.invokespecial 29, 3) := by decide +kernel
theorem dX2_init_40 : decode cX2_init 40 = .ok (.putfield 30, 3) := by decide +kernel
theorem dX2_init_43 : decode cX2_init 43 = .ok (.return_, 1) := by decide +kernel
theorem dX1_init_0 : decode cX1_init 0 = .ok (.aload_n 0, 1) := by decide +kernel
theorem dX1_init_1 : decode cX1_init 1 = .ok (.invokespecial 3, 3) := by decide +kernel
theorem dX1_init_4 : decode cX1_init 4 = .ok (.aload_n 0, 1) := by decide +kernel
theorem dX1_init_5 : decode cX1_init 5 = .ok (.iload_n 1, 1) := by decide +kernel
theorem dX1_init_6 : decode cX1_init 6 = .ok (.putfield 9, 3) := by decide +kernel
theorem dX1_init_9 : decode cX1_init 9 = .ok (.aload_n 0, 1) := by decide +kernel
theorem dX1_init_10 : decode cX1_init 10 = .ok (.bipush 7, 2) := by decide +kernel
theorem dX1_init_12 : decode cX1_init 12 = .ok (.newarray .boolean, 2) := by decide +kernel
theorem dX1_init_14 : decode cX1_init 14 = .ok (.putfield 15, 3) := by decide +kernel
theorem dX1_init_17 : decode cX1_init 17 = .ok (.aload_n 0, 1) := by decide +kernel
theorem dX1_init_18 : decode cX1_init 18 = .ok (.iload_n 1, 1) := by decide +kernel
theorem dX1_init_19 : decode cX1_init 19 = .ok (.iconst 4, 1) := by decide +kernel
theorem dX1_init_20 : decode cX1_init 20 = .ok (.imul, 1) := by decide +kernel
theorem dX1_init_21 : decode cX1_init 21 = .ok (.newarray .int, 2) := by decide +kernel
theorem dX1_init_23 : decode cX1_init 23 = .ok (.putfield 19, 3) := by decide +kernel
theorem dX1_init_26 : decode cX1_init 26 = .ok (.aload_n 0, 1) := by decide +kernel
theorem dX1_init_27 : decode cX1_init 27 = .ok (.iload_n 1, 1) := by decide +kernel
theorem dX1_init_28 : decode cX1_init 28 = .ok (.iconst 4, 1) := by decide +kernel
theorem dX1_init_29 : decode cX1_init 29 = .ok (.imul, 1) := by decide +kernel
theorem dX1_init_30 : decode cX1_init 30 = .ok (.newarray .int, 2) := by decide +kernel
theorem dX1_init_32 : decode cX1_init 32 = .ok (.putfield 23, 3) := by decide +kernel
theorem dX1_init_35 : decode cX1_init 35 = .ok (.aload_n 0, 1) := by decide +kernel
theorem dX1_init_36 : decode cX1_init 36 = .ok (.iload_n 1, 1) := by decide +kernel
theorem dX1_init_37 : decode cX1_init 37 = .ok (.iconst 4, 1) := by decide +kernel
theorem dX1_init_38 : decode cX1_init 38 = .ok (.imul, 1) := by decide +kernel
theorem dX1_init_39 : decode cX1_init 39 = .ok (.newarray .boolean, 2) := by decide +kernel
theorem dX1_init_41 : decode cX1_init 41 = .ok (.putfield 26, 3) := by decide +kernel
theorem dX1_init_44 : decode cX1_init 44 = .ok (.aload_n 0, 1) := by decide +kernel
theorem dX1_init_45 : decode cX1_init 45 = .ok (.iload_n 1, 1) := by decide +kernel
theorem dX1_init_46 : decode cX1_init 46 = .ok (.newarray .int, 2) := by decide +kernel
theorem dX1_init_48 : decode cX1_init 48 = .ok (.putfield 29, 3) := by decide +kernel
theorem dX1_init_51 : decode cX1_init 51 = .ok (.iconst 0, 1) := by decide +kernel
theorem dX1_init_52 : decode cX1_init 52 = .ok (.istore_n 2, 1) := by decide +kernel
theorem dX1_init_53 : decode cX1_init 53 = .ok (.iload_n 2, 1) := by decide +kernel
theorem dX1_init_54 : decode cX1_init 54 = .ok (.bipush 7, 2) := by decide +kernel
theorem dX1_init_56 : decode cX1_init 56 = .ok (.if_icmp .ge 16, 3) := by decide +kernel
theorem dX1_init_59 : decode cX1_init 59 = .ok (.aload_n 0, 1) := by decide +kernel
theorem dX1_init_60 : decode cX1_init 60 = .ok (.getfield 15, 3) := by decide +kernel
theorem dX1_init_63 : decode cX1_init 63 = .ok (.iload_n 2, 1) := by decide +kernel
theorem dX1_init_64 : decode cX1_init 64 = .ok (.iconst 1, 1) := by decide +kernel
theorem dX1_init_65 : decode cX1_init 65 = .ok (.bastore, 1) := by decide +kernel
theorem dX1_init_66 : decode cX1_init 66 = .ok (.iinc 2 1, 3) := by decide +kernel
theorem dX1_init_69 : decode cX1_init 69 = .ok (.goto (-16), 3) := by decide +kernel
theorem dX1_init_72 : decode cX1_init 72 = .ok (.iconst 0, 1) := by decide +kernel
theorem dX1_init_73 : decode cX1_init 73 = .ok (.istore_n 2, 1) := by decide +kernel
theorem dX1_init_74 : decode cX1_init 74 = .ok (.iload_n 2, 1) := by decide +kernel
theorem dX1_init_75 : decode cX1_init 75 = .ok (.iload_n 1, 1) := by decide +kernel
theorem dX1_init_76 : decode cX1_init 76 = .ok (.if_icmp .ge 16, 3) := by decide +kernel
theorem dX1_init_79 : decode cX1_init 79 = .ok (.aload_n 0, 1) := by decide +kernel
theorem dX1_init_80 : decode cX1_init 80 = .ok (.getfield 29, 3) := by decide +kernel
theorem dX1_init_83 : decode cX1_init 83 = .ok (.iload_n 2, 1) := by decide +kernel
theorem dX1_init_84 : decode cX1_init 84 = .ok (.iconst 4, 1) := by decide +kernel
theorem dX1_init_85 : decode cX1_init 85 = .ok (.iastore, 1) := by decide +kernel
theorem dX1_init_86 : decode cX1_init 86 = .ok (.iinc 2 1, 3) := by decide +kernel
theorem dX1_init_89 : decode cX1_init 89 = .ok (.goto (-15), 3) := by decide +kernel
theorem dX1_init_92 : decode cX1_init 92 = .ok (.return_, 1) := by decide +kernel
theorem dX0_init_0 : decode cX0_init 0 = .ok (.aload_n 0, 1) := by decide +kernel
theorem dX0_init_1 : decode cX0_init 1 = .ok (.invokespecial 3, 3) := by decide +kernel
theorem dX0_init_4 : decode cX0_init 4 = .ok (.aload_n 0, 1) := by decide +kernel
theorem dX0_init_5 : decode cX0_init 5 = .ok (.iload_n 1, 1) := by decide +kernel
theorem dX0_init_6 : decode cX0_init 6 = .ok (.newarray .boolean, 2) := by decide +kernel
theorem dX0_init_8 : decode cX0_init 8 = .ok (.putfield 9, 3) := by decide +kernel
theorem dX0_init_11 : decode cX0_init 11 = .ok (.aload_n 0, 1) := by decide +kernel
theorem dX0_init_12 : decode cX0_init 12 = .ok (.bipush 8, 2) := by decide +kernel
theorem dX0_init_14 : decode cX0_init 14 = .ok (.newarray .int, 2) := by decide +kernel
theorem dX0_init_16 : decode cX0_init 16 = .ok (.putfield 15, 3) := by decide +kernel
theorem dX0_init_19 : decode cX0_init 19 = .ok (.aload_n 0, 1) := by decide +kernel
theorem dX0_init_20 : decode cX0_init 20 = .ok (.bipush 8, 2) := by decide +kernel
theorem dX0_init_22 : decode cX0_init 22 = .ok (.newarray .int, 2) := by decide +kernel
theorem dX0_init_24 : decode cX0_init 24 = .ok (.putfield 19, 3) := by decide +kernel
theorem dX0_init_27 : decode cX0_init 27 = .ok (.aload_n 0, 1) := by decide +kernel
theorem dX0_init_28 : decode cX0_init 28 = .ok (.bipush 24, 2) := by decide +kernel
theorem dX0_init_30 : decode cX0_init 30 = .ok (.newarray .int, 2) := by decide +kernel
theorem dX0_init_32 : decode cX0_init 32 = .ok (.putfield 22, 3) := by decide +kernel
theorem dX0_init_35 : decode cX0_init 35 = .ok (.aload_n 0, 1) := by decide +kernel
theorem dX0_init_36 : decode cX0_init 36 = .ok (.bipush 24, 2) := by decide +kernel
theorem dX0_init_38 : decode cX0_init 38 = .ok (.newarray .int, 2) := by decide +kernel
theorem dX0_init_40 : decode cX0_init 40 = .ok (.putfield 25, 3) := by decide +kernel
theorem dX0_init_43 : decode cX0_init 43 = .ok (.return_, 1) := by decide +kernel
theorem dX2_create_0 : decode cX2_create 0 = .ok (.iload_n 1, 1) := by decide +kernel
theorem dX2_create_1 : decode cX2_create 1 = .ok (.invokestatic 34, 3) := by decide +kernel
theorem dX2_create_4 : decode cX2_create 4 = .ok (.ifCond .eq 25, 3) := by decide +kernel
theorem dX2_create_7 : decode cX2_create 7 = .ok (.iload_n 2, 1) := by decide +kernel
theorem dX2_create_8 : decode cX2_create 8 = .ok (.iconst 1, 1) := by decide +kernel
theorem dX2_create_9 : decode cX2_create 9 = .ok (.if_icmp .lt 20, 3) := by decide +kernel
theorem dX2_create_12 : decode cX2_create 12 = .ok (.iload_n 2, 1) := by decide +kernel
theorem dX2_create_13 : decode cX2_create 13 = .ok (.bipush 63, 2) := by decide +kernel
theorem dX2_create_15 : decode cX2_create 15 = .ok (.if_icmp .gt 14, 3) := by decide +kernel
theorem dX2_create_18 : decode cX2_create 18 = .ok (.aload_n 0, 1) := by decide +kernel
theorem dX2_create_19 : decode cX2_create 19 = .ok (.getfield 30, 3) := by decide +kernel
theorem dX2_create_22 : decode cX2_create 22 = .ok (.iload_n 1, 1) := by decide +kernel
theorem dX2_create_23 : decode cX2_create 23 = .ok (.invokevirtual 38, 3) := by decide +kernel
theorem dX2_create_26 : decode cX2_create 26 = .ok (.ifCond .eq 5, 3) := by decide +kernel
theorem dX2_create_29 : decode cX2_create 29 = .ok (.iconst (-1), 1) := by decide +kernel
theorem dX2_create_30 : decode cX2_create 30 = .ok (.ireturn, 1) := by decide +kernel
theorem dX2_create_31 : decode cX2_create 31 = .ok (.aload_n 0, 1) := by decide +kernel
theorem dX2_create_32 : decode cX2_create 32 = .ok (.getfield 30, 3) := by decide +kernel
theorem dX2_create_35 : decode cX2_create 35 = .ok (.iload_n 1, 1) := by decide +kernel
theorem dX2_create_36 : decode cX2_create 36 = .ok (.iload_n 2, 1) := by decide +kernel
theorem dX2_create_37 : decode cX2_create 37 = .ok (.invokevirtual 41, 3) := by decide +kernel
theorem dX2_create_40 : decode cX2_create 40 = .ok (.ifCond .eq 14, 3) := by decide +kernel
theorem dX2_create_43 : decode cX2_create 43 = .ok (.aload_n 0, 1) := by decide +kernel
theorem dX2_create_44 : decode cX2_create 44 = .ok (.getfield 30, 3) := by decide +kernel
theorem dX2_create_47 : decode cX2_create 47 = .ok (.iload_n 1, 1) := by decide +kernel
theorem dX2_create_48 : decode cX2_create 48 = .ok (.invokevirtual 45, 3) := by decide +kernel
theorem dX2_create_51 : decode cX2_create 51 = .ok (.goto 5, 3) := by decide +kernel
theorem dX2_create_54 : decode cX2_create 54 = .ok (.bipush (-2), 2) := by decide +kernel
theorem dX2_create_56 : decode cX2_create 56 = .ok (.ireturn, 1) := by decide +kernel
theorem dX2_isFile_0 : decode cX2_isFile 0 = .ok (.iload_n 0, 1) := by decide +kernel
theorem dX2_isFile_1 : decode cX2_isFile 1 = .ok (.ifCond .lt 13, 3) := by decide +kernel
theorem dX2_isFile_4 : decode cX2_isFile 4 = .ok (.iload_n 0, 1) := by decide +kernel
theorem dX2_isFile_5 : decode cX2_isFile 5 = .ok (.bipush 8, 2) := by decide +kernel
theorem dX2_isFile_7 : decode cX2_isFile 7 = .ok (.if_icmp .ge 7, 3) := by decide +kernel
theorem dX2_isFile_10 : decode cX2_isFile 10 = .ok (.iconst 1, 1) := by decide +kernel
theorem dX2_isFile_11 : decode cX2_isFile 11 = .ok (.goto 4, 3) := by decide +kernel
theorem dX2_isFile_14 : decode cX2_isFile 14 = .ok (.iconst 0, 1) := by decide +kernel
theorem dX2_isFile_15 : decode cX2_isFile 15 = .ok (.ireturn, 1) := by decide +kernel
theorem dX0_isThere_0 : decode cX0_isThere 0 = .ok (.aload_n 0, 1) := by decide +kernel
theorem dX0_isThere_1 : decode cX0_isThere 1 = .ok (.getfield 15, 3) := by decide +kernel
theorem dX0_isThere_4 : decode cX0_isThere 4 = .ok (.iload_n 1, 1) := by decide +kernel
theorem dX0_isThere_5 : decode cX0_isThere 5 = .ok (.iaload, 1) := by decide +kernel
theorem dX0_isThere_6 : decode cX0_isThere 6 = .ok (.ifCond .le 7, 3) := by decide +kernel
theorem dX0_isThere_9 : decode cX0_isThere 9 = .ok (.iconst 1, 1) := by decide +kernel
theorem dX0_isThere_10 : decode cX0_isThere 10 = .ok (.goto 4, 3) := by decide +kernel
theorem dX0_isThere_13 : decode cX0_isThere 13 = .ok (.iconst 0, 1) := by decide +kernel
theorem dX0_isThere_14 : decode cX0_isThere 14 = .ok (.ireturn, 1) := by decide +kernel
theorem dX0_make_0 : decode cX0_make 0 = .ok (.aload_n 0, 1) := by decide +kernel
theorem dX0_make_1 : decode cX0_make 1 = .ok (.iload_n 2, 1) := by decide +kernel
theorem dX0_make_2 : decode cX0_make 2 = .ok (.invokevirtual 28, 3) := by decide +kernel
theorem dX0_make_5 : decode cX0_make 5 = .ok (.istore_n 3, 1) := by decide +kernel
theorem dX0_make_6 : decode cX0_make 6 = .ok (.iload_n 3, 1) := by decide +kernel
theorem dX0_make_7 : decode cX0_make 7 = .ok (.iconst (-1), 1) := by decide +kernel
theorem dX0_make_8 : decode cX0_make 8 = .ok (.if_icmp .eq 12, 3) := by decide +kernel
theorem dX0_make_11 : decode cX0_make 11 = .ok (.aload_n 0, 1) := by decide +kernel
theorem dX0_make_12 : decode cX0_make 12 = .ok (.iload_n 1, 1) := by decide +kernel
theorem dX0_make_13 : decode cX0_make 13 = .ok (.iload_n 3, 1) := by decide +kernel
theorem dX0_make_14 : decode cX0_make 14 = .ok (.iload_n 2, 1) := by decide +kernel
theorem dX0_make_15 : decode cX0_make 15 = .ok (.invokevirtual 32, 3) := by decide +kernel
theorem dX0_make_18 : decode cX0_make 18 = .ok (.iconst 1, 1) := by decide +kernel
theorem dX0_make_19 : decode cX0_make 19 = .ok (.ireturn, 1) := by decide +kernel
theorem dX0_make_20 : decode cX0_make 20 = .ok (.iconst 0, 1) := by decide +kernel
theorem dX0_make_21 : decode cX0_make 21 = .ok (.istore 4, 2) := by decide +kernel
theorem dX0_make_23 : decode cX0_make 23 = .ok (.iload 4, 2) := by decide +kernel
theorem dX0_make_25 : decode cX0_make 25 = .ok (.iconst 3, 1) := by decide +kernel
theorem dX0_make_26 : decode cX0_make 26 = .ok (.if_icmp .ge 32, 3) := by decide +kernel
theorem dX0_make_29 : decode cX0_make 29 = .ok (.aload_n 0, 1) := by decide +kernel
theorem dX0_make_30 : decode cX0_make 30 = .ok (.getfield 15, 3) := by decide +kernel
theorem dX0_make_33 : decode cX0_make 33 = .ok (.iload_n 1, 1) := by decide +kernel
theorem dX0_make_34 : decode cX0_make 34 = .ok (.iaload, 1) := by decide +kernel
theorem dX0_make_35 : decode cX0_make 35 = .ok (.iload_n 2, 1) := by decide +kernel
theorem dX0_make_36 : decode cX0_make 36 = .ok (.if_icmp .ge 22, 3) := by decide +kernel
theorem dX0_make_39 : decode cX0_make 39 = .ok (.aload_n 0, 1) := by decide +kernel
theorem dX0_make_40 : decode cX0_make 40 = .ok (.iload_n 1, 1) := by decide +kernel
theorem dX0_make_41 : decode cX0_make 41 = .ok (.iload_n 2, 1) := by decide +kernel
theorem dX0_make_42 : decode cX0_make 42 = .ok (.aload_n 0, 1) := by decide +kernel
theorem dX0_make_43 : decode cX0_make 43 = .ok (.getfield 15, 3) := by decide +kernel
theorem dX0_make_46 : decode cX0_make 46 = .ok (.iload_n 1, 1) := by decide +kernel
theorem dX0_make_47 : decode cX0_make 47 = .ok (.iaload, 1) := by decide +kernel
theorem dX0_make_48 : decode cX0_make 48 = .ok (.isub, 1) := by decide +kernel
theorem dX0_make_49 : decode cX0_make 49 = .ok (.invokevirtual 36, 3) := by decide +kernel
theorem dX0_make_52 : decode cX0_make 52 = .ok (.iinc 4 1, 3) := by decide +kernel
theorem dX0_make_55 : decode cX0_make 55 = .ok (.goto (-32), 3) := by decide +kernel
theorem dX0_make_58 : decode cX0_make 58 = .ok (.aload_n 0, 1) := by decide +kernel
theorem dX0_make_59 : decode cX0_make 59 = .ok (.getfield 15, 3) := by decide +kernel
theorem dX0_make_62 : decode cX0_make 62 = .ok (.iload_n 1, 1) := by decide +kernel
theorem dX0_make_63 : decode cX0_make 63 = .ok (.iaload, 1) := by decide +kernel
theorem dX0_make_64 : decode cX0_make 64 = .ok (.iload_n 2, 1) := by decide +kernel
theorem dX0_make_65 : decode cX0_make 65 = .ok (.if_icmp .ge 10, 3) := by decide +kernel
theorem dX0_make_68 : decode cX0_make 68 = .ok (.aload_n 0, 1) := by decide +kernel
theorem dX0_make_69 : decode cX0_make 69 = .ok (.iload_n 1, 1) := by decide +kernel
theorem dX0_make_70 : decode cX0_make 70 = .ok (.invokevirtual 40, 3) := by decide +kernel
theorem dX0_make_73 : decode cX0_make 73 = .ok (.iconst 0, 1) := by decide +kernel
theorem dX0_make_74 : decode cX0_make 74 = .ok (.ireturn, 1) := by decide +kernel
theorem dX0_make_75 : decode cX0_make 75 = .ok (.iconst 1, 1) := by decide +kernel
theorem dX0_make_76 : decode cX0_make 76 = .ok (.ireturn, 1) := by decide +kernel
theorem dX0_firstRunOf_0 : decode cX0_firstRunOf 0 = .ok (.iconst 0, 1) := by decide +kernel
theorem dX0_firstRunOf_1 : decode cX0_firstRunOf 1 = .ok (.istore_n 2, 1) := by decide +kernel
theorem dX0_firstRunOf_2 : decode cX0_firstRunOf 2 = .ok (.iload_n 2, 1) := by decide +kernel
theorem dX0_firstRunOf_3 : decode cX0_firstRunOf 3 = .ok (.aload_n 0, 1) := by decide +kernel
theorem dX0_firstRunOf_4 : decode cX0_firstRunOf 4 = .ok (.getfield 9, 3) := by decide +kernel
theorem dX0_firstRunOf_7 : decode cX0_firstRunOf 7 = .ok (.arraylength, 1) := by decide +kernel
theorem dX0_firstRunOf_8 : decode cX0_firstRunOf 8 = .ok (.if_icmp .ge 28, 3) := by decide +kernel
theorem dX0_firstRunOf_11 : decode cX0_firstRunOf 11 = .ok (.aload_n 0, 1) := by decide +kernel
theorem dX0_firstRunOf_12 : decode cX0_firstRunOf 12 = .ok (.iload_n 2, 1) := by decide +kernel
theorem dX0_firstRunOf_13 : decode cX0_firstRunOf 13 = .ok (.invokevirtual 55, 3) := by decide +kernel
theorem dX0_firstRunOf_16 : decode cX0_firstRunOf 16 = .ok (.ifCond .eq 14, 3) := by decide +kernel
theorem dX0_firstRunOf_19 : decode cX0_firstRunOf 19 = .ok (.aload_n 0, 1) := by decide +kernel
theorem dX0_firstRunOf_20 : decode cX0_firstRunOf 20 = .ok (.iload_n 2, 1) := by decide +kernel
theorem dX0_firstRunOf_21 : decode cX0_firstRunOf 21 = .ok (.invokevirtual 63, 3) := by decide +kernel
theorem dX0_firstRunOf_24 : decode cX0_firstRunOf 24 = .ok (.iload_n 1, 1) := by decide +kernel
theorem dX0_firstRunOf_25 : decode cX0_firstRunOf 25 = .ok (.if_icmp .lt 5, 3) := by decide +kernel
theorem dX0_firstRunOf_28 : decode cX0_firstRunOf 28 = .ok (.iload_n 2, 1) := by decide +kernel
theorem dX0_firstRunOf_29 : decode cX0_firstRunOf 29 = .ok (.ireturn, 1) := by decide +kernel
theorem dX0_firstRunOf_30 : decode cX0_firstRunOf 30 = .ok (.iinc 2 1, 3) := by decide +kernel
theorem dX0_firstRunOf_33 : decode cX0_firstRunOf 33 = .ok (.goto (-31), 3) := by decide +kernel
theorem dX0_firstRunOf_36 : decode cX0_firstRunOf 36 = .ok (.iconst (-1), 1) := by decide +kernel
theorem dX0_firstRunOf_37 : decode cX0_firstRunOf 37 = .ok (.ireturn, 1) := by decide +kernel
theorem dX0_startsRun_0 : decode cX0_startsRun 0 = .ok (.aload_n 0, 1) := by decide +kernel
theorem dX0_startsRun_1 : decode cX0_startsRun 1 = .ok (.getfield 9, 3) := by decide +kernel
theorem dX0_startsRun_4 : decode cX0_startsRun 4 = .ok (.iload_n 1, 1) := by decide +kernel
theorem dX0_startsRun_5 : decode cX0_startsRun 5 = .ok (.baload, 1) := by decide +kernel
theorem dX0_startsRun_6 : decode cX0_startsRun 6 = .ok (.ifCond .ne 22, 3) := by decide +kernel
theorem dX0_startsRun_9 : decode cX0_startsRun 9 = .ok (.iload_n 1, 1) := by decide +kernel
theorem dX0_startsRun_10 : decode cX0_startsRun 10 = .ok (.ifCond .eq 14, 3) := by decide +kernel
theorem dX0_startsRun_13 : decode cX0_startsRun 13 = .ok (.aload_n 0, 1) := by decide +kernel
theorem dX0_startsRun_14 : decode cX0_startsRun 14 = .ok (.getfield 9, 3) := by decide +kernel
theorem dX0_startsRun_17 : decode cX0_startsRun 17 = .ok (.iload_n 1, 1) := by decide +kernel
theorem dX0_startsRun_18 : decode cX0_startsRun 18 = .ok (.iconst 1, 1) := by decide +kernel
theorem dX0_startsRun_19 : decode cX0_startsRun 19 = .ok (.isub, 1) := by decide +kernel
theorem dX0_startsRun_20 : decode cX0_startsRun 20 = .ok (.baload, 1) := by decide +kernel
theorem dX0_startsRun_21 : decode cX0_startsRun 21 = .ok (.ifCond .eq 7, 3) := by decide +kernel
theorem dX0_startsRun_24 : decode cX0_startsRun 24 = .ok (.iconst 1, 1) := by decide +kernel
theorem dX0_startsRun_25 : decode cX0_startsRun 25 = .ok (.goto 4, 3) := by decide +kernel
theorem dX0_startsRun_28 : decode cX0_startsRun 28 = .ok (.iconst 0, 1) := by decide +kernel
theorem dX0_startsRun_29 : decode cX0_startsRun 29 = .ok (.ireturn, 1) := by decide +kernel
theorem dX0_runFrom_0 : decode cX0_runFrom 0 = .ok (.iload_n 1, 1) := by decide +kernel
theorem dX0_runFrom_1 : decode cX0_runFrom 1 = .ok (.istore_n 2, 1) := by decide +kernel
theorem dX0_runFrom_2 : decode cX0_runFrom 2 = .ok (.iload_n 2, 1) := by decide +kernel
theorem dX0_runFrom_3 : decode cX0_runFrom 3 = .ok (.aload_n 0, 1) := by decide +kernel
theorem dX0_runFrom_4 : decode cX0_runFrom 4 = .ok (.getfield 9, 3) := by decide +kernel
theorem dX0_runFrom_7 : decode cX0_runFrom 7 = .ok (.arraylength, 1) := by decide +kernel
theorem dX0_runFrom_8 : decode cX0_runFrom 8 = .ok (.if_icmp .ge 18, 3) := by decide +kernel
theorem dX0_runFrom_11 : decode cX0_runFrom 11 = .ok (.aload_n 0, 1) := by decide +kernel
theorem dX0_runFrom_12 : decode cX0_runFrom 12 = .ok (.getfield 9, 3) := by decide +kernel
theorem dX0_runFrom_15 : decode cX0_runFrom 15 = .ok (.iload_n 2, 1) := by decide +kernel
theorem dX0_runFrom_16 : decode cX0_runFrom 16 = .ok (.baload, 1) := by decide +kernel
theorem dX0_runFrom_17 : decode cX0_runFrom 17 = .ok (.ifCond .ne 9, 3) := by decide +kernel
theorem dX0_runFrom_20 : decode cX0_runFrom 20 = .ok (.iinc 2 1, 3) := by decide +kernel
theorem dX0_runFrom_23 : decode cX0_runFrom 23 = .ok (.goto (-21), 3) := by decide +kernel
theorem dX0_runFrom_26 : decode cX0_runFrom 26 = .ok (.iload_n 2, 1) := by decide +kernel
theorem dX0_runFrom_27 : decode cX0_runFrom 27 = .ok (.iload_n 1, 1) := by decide +kernel
theorem dX0_runFrom_28 : decode cX0_runFrom 28 = .ok (.isub, 1) := by decide +kernel
theorem dX0_runFrom_29 : decode cX0_runFrom 29 = .ok (.ireturn, 1) := by decide +kernel
theorem dX0_addExtent_0 : decode cX0_addExtent 0 = .ok (.iload_n 1, 1) := by decide +kernel
theorem dX0_addExtent_1 : decode cX0_addExtent 1 = .ok (.iconst 3, 1) := by decide +kernel
theorem dX0_addExtent_2 : decode cX0_addExtent 2 = .ok (.imul, 1) := by decide +kernel
theorem dX0_addExtent_3 : decode cX0_addExtent 3 = .ok (.aload_n 0, 1) := by decide +kernel
theorem dX0_addExtent_4 : decode cX0_addExtent 4 = .ok (.getfield 19, 3) := by decide +kernel
theorem dX0_addExtent_7 : decode cX0_addExtent 7 = .ok (.iload_n 1, 1) := by decide +kernel
theorem dX0_addExtent_8 : decode cX0_addExtent 8 = .ok (.iaload, 1) := by decide +kernel
theorem dX0_addExtent_9 : decode cX0_addExtent 9 = .ok (.iadd, 1) := by decide +kernel
theorem dX0_addExtent_10 : decode cX0_addExtent 10 = .ok (.istore 4, 2) := by decide +kernel
theorem dX0_addExtent_12 : decode cX0_addExtent 12 = .ok (.aload_n 0, 1) := by decide +kernel
theorem dX0_addExtent_13 : decode cX0_addExtent 13 = .ok (.getfield 22, 3) := by decide +kernel
theorem dX0_addExtent_16 : decode cX0_addExtent 16 = .ok (.iload 4, 2) := by decide +kernel
theorem dX0_addExtent_18 : decode cX0_addExtent 18 = .ok (.iload_n 2, 1) := by decide +kernel
theorem dX0_addExtent_19 : decode cX0_addExtent 19 = .ok (.iastore, 1) := by decide +kernel
theorem dX0_addExtent_20 : decode cX0_addExtent 20 = .ok (.aload_n 0, 1) := by decide +kernel
theorem dX0_addExtent_21 : decode cX0_addExtent 21 = .ok (.getfield 25, 3) := by decide +kernel
theorem dX0_addExtent_24 : decode cX0_addExtent 24 = .ok (.iload 4, 2) := by decide +kernel
theorem dX0_addExtent_26 : decode cX0_addExtent 26 = .ok (.iload_n 3, 1) := by decide +kernel
theorem dX0_addExtent_27 : decode cX0_addExtent 27 = .ok (.iastore, 1) := by decide +kernel
theorem dX0_addExtent_28 : decode cX0_addExtent 28 = .ok (.aload_n 0, 1) := by decide +kernel
theorem dX0_addExtent_29 : decode cX0_addExtent 29 = .ok (.getfield 19, 3) := by decide +kernel
theorem dX0_addExtent_32 : decode cX0_addExtent 32 = .ok (.iload_n 1, 1) := by decide +kernel
theorem dX0_addExtent_33 : decode cX0_addExtent 33 = .ok (.dup2, 1) := by decide +kernel
theorem dX0_addExtent_34 : decode cX0_addExtent 34 = .ok (.iaload, 1) := by decide +kernel
theorem dX0_addExtent_35 : decode cX0_addExtent 35 = .ok (.iconst 1, 1) := by decide +kernel
theorem dX0_addExtent_36 : decode cX0_addExtent 36 = .ok (.iadd, 1) := by decide +kernel
theorem dX0_addExtent_37 : decode cX0_addExtent 37 = .ok (.iastore, 1) := by decide +kernel
theorem dX0_addExtent_38 : decode cX0_addExtent 38 = .ok (.aload_n 0, 1) := by decide +kernel
theorem dX0_addExtent_39 : decode cX0_addExtent 39 = .ok (.getfield 15, 3) := by decide +kernel
theorem dX0_addExtent_42 : decode cX0_addExtent 42 = .ok (.iload_n 1, 1) := by decide +kernel
theorem dX0_addExtent_43 : decode cX0_addExtent 43 = .ok (.dup2, 1) := by decide +kernel
theorem dX0_addExtent_44 : decode cX0_addExtent 44 = .ok (.iaload, 1) := by decide +kernel
theorem dX0_addExtent_45 : decode cX0_addExtent 45 = .ok (.iload_n 3, 1) := by decide +kernel
theorem dX0_addExtent_46 : decode cX0_addExtent 46 = .ok (.iadd, 1) := by decide +kernel
theorem dX0_addExtent_47 : decode cX0_addExtent 47 = .ok (.iastore, 1) := by decide +kernel
theorem dX0_addExtent_48 : decode cX0_addExtent 48 = .ok (.aload_n 0, 1) := by decide +kernel
theorem dX0_addExtent_49 : decode cX0_addExtent 49 = .ok (.iload_n 2, 1) := by decide +kernel
theorem dX0_addExtent_50 : decode cX0_addExtent 50 = .ok (.iload_n 3, 1) := by decide +kernel
theorem dX0_addExtent_51 : decode cX0_addExtent 51 = .ok (.iconst 1, 1) := by decide +kernel
theorem dX0_addExtent_52 : decode cX0_addExtent 52 = .ok (.invokevirtual 51, 3) := by decide +kernel
theorem dX0_addExtent_55 : decode cX0_addExtent 55 = .ok (.return_, 1) := by decide +kernel
theorem dX0_mark_0 : decode cX0_mark 0 = .ok (.iload_n 1, 1) := by decide +kernel
theorem dX0_mark_1 : decode cX0_mark 1 = .ok (.istore 4, 2) := by decide +kernel
theorem dX0_mark_3 : decode cX0_mark 3 = .ok (.iload 4, 2) := by decide +kernel
theorem dX0_mark_5 : decode cX0_mark 5 = .ok (.iload_n 1, 1) := by decide +kernel
theorem dX0_mark_6 : decode cX0_mark 6 = .ok (.iload_n 2, 1) := by decide +kernel
theorem dX0_mark_7 : decode cX0_mark 7 = .ok (.iadd, 1) := by decide +kernel
theorem dX0_mark_8 : decode cX0_mark 8 = .ok (.if_icmp .ge 17, 3) := by decide +kernel
theorem dX0_mark_11 : decode cX0_mark 11 = .ok (.aload_n 0, 1) := by decide +kernel
theorem dX0_mark_12 : decode cX0_mark 12 = .ok (.getfield 9, 3) := by decide +kernel
theorem dX0_mark_15 : decode cX0_mark 15 = .ok (.iload 4, 2) := by decide +kernel
theorem dX0_mark_17 : decode cX0_mark 17 = .ok (.iload_n 3, 1) := by decide +kernel
theorem dX0_mark_18 : decode cX0_mark 18 = .ok (.bastore, 1) := by decide +kernel
theorem dX0_mark_19 : decode cX0_mark 19 = .ok (.iinc 4 1, 3) := by decide +kernel
theorem dX0_mark_22 : decode cX0_mark 22 = .ok (.goto (-19), 3) := by decide +kernel
theorem dX0_mark_25 : decode cX0_mark 25 = .ok (.return_, 1) := by decide +kernel
theorem dX0_addLongestRun_0 : decode cX0_addLongestRun 0 = .ok (.aload_n 0, 1) := by decide +kernel
theorem dX0_addLongestRun_1 : decode cX0_addLongestRun 1 = .ok (.invokevirtual 59, 3) := by decide +kernel
theorem dX0_addLongestRun_4 : decode cX0_addLongestRun 4 = .ok (.istore_n 3, 1) := by decide +kernel
theorem dX0_addLongestRun_5 : decode cX0_addLongestRun 5 = .ok (.iload_n 3, 1) := by decide +kernel
theorem dX0_addLongestRun_6 : decode cX0_addLongestRun 6 = .ok (.iconst (-1), 1) := by decide +kernel
theorem dX0_addLongestRun_7 : decode cX0_addLongestRun 7 = .ok (.if_icmp .eq 18, 3) := by decide +kernel
theorem dX0_addLongestRun_10 : decode cX0_addLongestRun 10 = .ok (.aload_n 0, 1) := by decide +kernel
theorem dX0_addLongestRun_11 : decode cX0_addLongestRun 11 = .ok (.iload_n 1, 1) := by decide +kernel
theorem dX0_addLongestRun_12 : decode cX0_addLongestRun 12 = .ok (.iload_n 3, 1) := by decide +kernel
theorem dX0_addLongestRun_13 : decode cX0_addLongestRun 13 = .ok (.aload_n 0, 1) := by decide +kernel
theorem dX0_addLongestRun_14 : decode cX0_addLongestRun 14 = .ok (.iload_n 3, 1) := by decide +kernel
theorem dX0_addLongestRun_15 : decode cX0_addLongestRun 15 = .ok (.invokevirtual 63, 3) := by decide +kernel
theorem dX0_addLongestRun_18 : decode cX0_addLongestRun 18 = .ok (.iload_n 2, 1) := by decide +kernel
theorem dX0_addLongestRun_19 : decode cX0_addLongestRun 19 = .ok (.invokestatic 66, 3) := by decide +kernel
theorem dX0_addLongestRun_22 : decode cX0_addLongestRun 22 = .ok (.invokevirtual 32, 3) := by decide +kernel
theorem dX0_addLongestRun_25 : decode cX0_addLongestRun 25 = .ok (.return_, 1) := by decide +kernel
theorem dX0_longestRun_0 : decode cX0_longestRun 0 = .ok (.iconst (-1), 1) := by decide +kernel
theorem dX0_longestRun_1 : decode cX0_longestRun 1 = .ok (.istore_n 1, 1) := by decide +kernel
theorem dX0_longestRun_2 : decode cX0_longestRun 2 = .ok (.iconst 0, 1) := by decide +kernel
theorem dX0_longestRun_3 : decode cX0_longestRun 3 = .ok (.istore_n 2, 1) := by decide +kernel
theorem dX0_longestRun_4 : decode cX0_longestRun 4 = .ok (.iconst 0, 1) := by decide +kernel
theorem dX0_longestRun_5 : decode cX0_longestRun 5 = .ok (.istore_n 3, 1) := by decide +kernel
theorem dX0_longestRun_6 : decode cX0_longestRun 6 = .ok (.iload_n 3, 1) := by decide +kernel
theorem dX0_longestRun_7 : decode cX0_longestRun 7 = .ok (.aload_n 0, 1) := by decide +kernel
theorem dX0_longestRun_8 : decode cX0_longestRun 8 = .ok (.getfield 9, 3) := by decide +kernel
theorem dX0_longestRun_11 : decode cX0_longestRun 11 = .ok (.arraylength, 1) := by decide +kernel
theorem dX0_longestRun_12 : decode cX0_longestRun 12 = .ok (.if_icmp .ge 34, 3) := by decide +kernel
theorem dX0_longestRun_15 : decode cX0_longestRun 15 = .ok (.aload_n 0, 1) := by decide +kernel
theorem dX0_longestRun_16 : decode cX0_longestRun 16 = .ok (.iload_n 3, 1) := by decide +kernel
theorem dX0_longestRun_17 : decode cX0_longestRun 17 = .ok (.invokevirtual 55, 3) := by decide +kernel
theorem dX0_longestRun_20 : decode cX0_longestRun 20 = .ok (.ifCond .eq 20, 3) := by decide +kernel
theorem dX0_longestRun_23 : decode cX0_longestRun 23 = .ok (.aload_n 0, 1) := by decide +kernel
theorem dX0_longestRun_24 : decode cX0_longestRun 24 = .ok (.iload_n 3, 1) := by decide +kernel
theorem dX0_longestRun_25 : decode cX0_longestRun 25 = .ok (.invokevirtual 63, 3) := by decide +kernel
theorem dX0_longestRun_28 : decode cX0_longestRun 28 = .ok (.iload_n 2, 1) := by decide +kernel
theorem dX0_longestRun_29 : decode cX0_longestRun 29 = .ok (.if_icmp .le 11, 3) := by decide +kernel
theorem dX0_longestRun_32 : decode cX0_longestRun 32 = .ok (.iload_n 3, 1) := by decide +kernel
theorem dX0_longestRun_33 : decode cX0_longestRun 33 = .ok (.istore_n 1, 1) := by decide +kernel
theorem dX0_longestRun_34 : decode cX0_longestRun 34 = .ok (.aload_n 0, 1) := by decide +kernel
theorem dX0_longestRun_35 : decode cX0_longestRun 35 = .ok (.iload_n 3, 1) := by decide +kernel
theorem dX0_longestRun_36 : decode cX0_longestRun 36 = .ok (.invokevirtual 63, 3) := by decide +kernel
theorem dX0_longestRun_39 : decode cX0_longestRun 39 = .ok (.istore_n 2, 1) := by decide +kernel
theorem dX0_longestRun_40 : decode cX0_longestRun 40 = .ok (.iinc 3 1, 3) := by decide +kernel
theorem dX0_longestRun_43 : decode cX0_longestRun 43 = .ok (.goto (-37), 3) := by decide +kernel
theorem dX0_longestRun_46 : decode cX0_longestRun 46 = .ok (.iload_n 1, 1) := by decide +kernel
theorem dX0_longestRun_47 : decode cX0_longestRun 47 = .ok (.ireturn, 1) := by decide +kernel
theorem dX0_release_0 : decode cX0_release 0 = .ok (.iconst 0, 1) := by decide +kernel
theorem dX0_release_1 : decode cX0_release 1 = .ok (.istore_n 2, 1) := by decide +kernel
theorem dX0_release_2 : decode cX0_release 2 = .ok (.iload_n 2, 1) := by decide +kernel
theorem dX0_release_3 : decode cX0_release 3 = .ok (.aload_n 0, 1) := by decide +kernel
theorem dX0_release_4 : decode cX0_release 4 = .ok (.getfield 19, 3) := by decide +kernel
theorem dX0_release_7 : decode cX0_release 7 = .ok (.iload_n 1, 1) := by decide +kernel
theorem dX0_release_8 : decode cX0_release 8 = .ok (.iaload, 1) := by decide +kernel
theorem dX0_release_9 : decode cX0_release 9 = .ok (.if_icmp .ge 26, 3) := by decide +kernel
theorem dX0_release_12 : decode cX0_release 12 = .ok (.aload_n 0, 1) := by decide +kernel
theorem dX0_release_13 : decode cX0_release 13 = .ok (.aload_n 0, 1) := by decide +kernel
theorem dX0_release_14 : decode cX0_release 14 = .ok (.iload_n 1, 1) := by decide +kernel
theorem dX0_release_15 : decode cX0_release 15 = .ok (.iload_n 2, 1) := by decide +kernel
theorem dX0_release_16 : decode cX0_release 16 = .ok (.invokevirtual 44, 3) := by decide +kernel
theorem dX0_release_19 : decode cX0_release 19 = .ok (.aload_n 0, 1) := by decide +kernel
theorem dX0_release_20 : decode cX0_release 20 = .ok (.iload_n 1, 1) := by decide +kernel
theorem dX0_release_21 : decode cX0_release 21 = .ok (.iload_n 2, 1) := by decide +kernel
theorem dX0_release_22 : decode cX0_release 22 = .ok (.invokevirtual 48, 3) := by decide +kernel
theorem dX0_release_25 : decode cX0_release 25 = .ok (.iconst 0, 1) := by decide +kernel
theorem dX0_release_26 : decode cX0_release 26 = .ok (.invokevirtual 51, 3) := by decide +kernel
theorem dX0_release_29 : decode cX0_release 29 = .ok (.iinc 2 1, 3) := by decide +kernel
theorem dX0_release_32 : decode cX0_release 32 = .ok (.goto (-30), 3) := by decide +kernel
theorem dX0_release_35 : decode cX0_release 35 = .ok (.aload_n 0, 1) := by decide +kernel
theorem dX0_release_36 : decode cX0_release 36 = .ok (.getfield 19, 3) := by decide +kernel
theorem dX0_release_39 : decode cX0_release 39 = .ok (.iload_n 1, 1) := by decide +kernel
theorem dX0_release_40 : decode cX0_release 40 = .ok (.iconst 0, 1) := by decide +kernel
theorem dX0_release_41 : decode cX0_release 41 = .ok (.iastore, 1) := by decide +kernel
theorem dX0_release_42 : decode cX0_release 42 = .ok (.aload_n 0, 1) := by decide +kernel
theorem dX0_release_43 : decode cX0_release 43 = .ok (.getfield 15, 3) := by decide +kernel
theorem dX0_release_46 : decode cX0_release 46 = .ok (.iload_n 1, 1) := by decide +kernel
theorem dX0_release_47 : decode cX0_release 47 = .ok (.iconst 0, 1) := by decide +kernel
theorem dX0_release_48 : decode cX0_release 48 = .ok (.iastore, 1) := by decide +kernel
theorem dX0_release_49 : decode cX0_release 49 = .ok (.return_, 1) := by decide +kernel
theorem dX0_extentStart_0 : decode cX0_extentStart 0 = .ok (.aload_n 0, 1) := by decide +kernel
theorem dX0_extentStart_1 : decode cX0_extentStart 1 = .ok (.getfield 22, 3) := by decide +kernel
theorem dX0_extentStart_4 : decode cX0_extentStart 4 = .ok (.iload_n 1, 1) := by decide +kernel
theorem dX0_extentStart_5 : decode cX0_extentStart 5 = .ok (.iconst 3, 1) := by decide +kernel
theorem dX0_extentStart_6 : decode cX0_extentStart 6 = .ok (.imul, 1) := by decide +kernel
theorem dX0_extentStart_7 : decode cX0_extentStart 7 = .ok (.iload_n 2, 1) := by decide +kernel
theorem dX0_extentStart_8 : decode cX0_extentStart 8 = .ok (.iadd, 1) := by decide +kernel
theorem dX0_extentStart_9 : decode cX0_extentStart 9 = .ok (.iaload, 1) := by decide +kernel
theorem dX0_extentStart_10 : decode cX0_extentStart 10 = .ok (.ireturn, 1) := by decide +kernel
theorem dX0_extentSize_0 : decode cX0_extentSize 0 = .ok (.aload_n 0, 1) := by decide +kernel
theorem dX0_extentSize_1 : decode cX0_extentSize 1 = .ok (.getfield 25, 3) := by decide +kernel
theorem dX0_extentSize_4 : decode cX0_extentSize 4 = .ok (.iload_n 1, 1) := by decide +kernel
theorem dX0_extentSize_5 : decode cX0_extentSize 5 = .ok (.iconst 3, 1) := by decide +kernel
theorem dX0_extentSize_6 : decode cX0_extentSize 6 = .ok (.imul, 1) := by decide +kernel
theorem dX0_extentSize_7 : decode cX0_extentSize 7 = .ok (.iload_n 2, 1) := by decide +kernel
theorem dX0_extentSize_8 : decode cX0_extentSize 8 = .ok (.iadd, 1) := by decide +kernel
theorem dX0_extentSize_9 : decode cX0_extentSize 9 = .ok (.iaload, 1) := by decide +kernel
theorem dX0_extentSize_10 : decode cX0_extentSize 10 = .ok (.ireturn, 1) := by decide +kernel
theorem dX0_extentsOf_0 : decode cX0_extentsOf 0 = .ok (.aload_n 0, 1) := by decide +kernel
theorem dX0_extentsOf_1 : decode cX0_extentsOf 1 = .ok (.getfield 19, 3) := by decide +kernel
theorem dX0_extentsOf_4 : decode cX0_extentsOf 4 = .ok (.iload_n 1, 1) := by decide +kernel
theorem dX0_extentsOf_5 : decode cX0_extentsOf 5 = .ok (.iaload, 1) := by decide +kernel
theorem dX0_extentsOf_6 : decode cX0_extentsOf 6 = .ok (.ireturn, 1) := by decide +kernel
theorem dX2_remove_0 : decode cX2_remove 0 = .ok (.iload_n 1, 1) := by decide +kernel
theorem dX2_remove_1 : decode cX2_remove 1 = .ok (.invokestatic 34, 3) := by decide +kernel
theorem dX2_remove_4 : decode cX2_remove 4 = .ok (.ifCond .eq 14, 3) := by decide +kernel
theorem dX2_remove_7 : decode cX2_remove 7 = .ok (.aload_n 0, 1) := by decide +kernel
theorem dX2_remove_8 : decode cX2_remove 8 = .ok (.getfield 30, 3) := by decide +kernel
theorem dX2_remove_11 : decode cX2_remove 11 = .ok (.iload_n 1, 1) := by decide +kernel
theorem dX2_remove_12 : decode cX2_remove 12 = .ok (.invokevirtual 38, 3) := by decide +kernel
theorem dX2_remove_15 : decode cX2_remove 15 = .ok (.ifCond .ne 5, 3) := by decide +kernel
theorem dX2_remove_18 : decode cX2_remove 18 = .ok (.iconst (-1), 1) := by decide +kernel
theorem dX2_remove_19 : decode cX2_remove 19 = .ok (.ireturn, 1) := by decide +kernel
theorem dX2_remove_20 : decode cX2_remove 20 = .ok (.aload_n 0, 1) := by decide +kernel
theorem dX2_remove_21 : decode cX2_remove 21 = .ok (.getfield 30, 3) := by decide +kernel
theorem dX2_remove_24 : decode cX2_remove 24 = .ok (.iload_n 1, 1) := by decide +kernel
theorem dX2_remove_25 : decode cX2_remove 25 = .ok (.invokevirtual 49, 3) := by decide +kernel
theorem dX2_remove_28 : decode cX2_remove 28 = .ok (.iconst 0, 1) := by decide +kernel
theorem dX2_remove_29 : decode cX2_remove 29 = .ok (.ireturn, 1) := by decide +kernel
theorem dX2_write_0 : decode cX2_write 0 = .ok (.aload_n 0, 1) := by decide +kernel
theorem dX2_write_1 : decode cX2_write 1 = .ok (.iload_n 1, 1) := by decide +kernel
theorem dX2_write_2 : decode cX2_write 2 = .ok (.iload_n 2, 1) := by decide +kernel
theorem dX2_write_3 : decode cX2_write 3 = .ok (.invokevirtual 52, 3) := by decide +kernel
theorem dX2_write_6 : decode cX2_write 6 = .ok (.istore 5, 2) := by decide +kernel
theorem dX2_write_8 : decode cX2_write 8 = .ok (.iload 5, 2) := by decide +kernel
theorem dX2_write_10 : decode cX2_write 10 = .ok (.iconst (-1), 1) := by decide +kernel
theorem dX2_write_11 : decode cX2_write 11 = .ok (.if_icmp .ne 5, 3) := by decide +kernel
theorem dX2_write_14 : decode cX2_write 14 = .ok (.iconst (-1), 1) := by decide +kernel
theorem dX2_write_15 : decode cX2_write 15 = .ok (.ireturn, 1) := by decide +kernel
theorem dX2_write_16 : decode cX2_write 16 = .ok (.iload 5, 2) := by decide +kernel
theorem dX2_write_18 : decode cX2_write 18 = .ok (.iconst 3, 1) := by decide +kernel
theorem dX2_write_19 : decode cX2_write 19 = .ok (.idiv, 1) := by decide +kernel
theorem dX2_write_20 : decode cX2_write 20 = .ok (.istore 6, 2) := by decide +kernel
theorem dX2_write_22 : decode cX2_write 22 = .ok (.iload 5, 2) := by decide +kernel
theorem dX2_write_24 : decode cX2_write 24 = .ok (.iconst 3, 1) := by decide +kernel
theorem dX2_write_25 : decode cX2_write 25 = .ok (.irem, 1) := by decide +kernel
theorem dX2_write_26 : decode cX2_write 26 = .ok (.istore 7, 2) := by decide +kernel
theorem dX2_write_28 : decode cX2_write 28 = .ok (.aload_n 0, 1) := by decide +kernel
theorem dX2_write_29 : decode cX2_write 29 = .ok (.getfield 23, 3) := by decide +kernel
theorem dX2_write_32 : decode cX2_write 32 = .ok (.iload 6, 2) := by decide +kernel
theorem dX2_write_34 : decode cX2_write 34 = .ok (.invokevirtual 55, 3) := by decide +kernel
theorem dX2_write_37 : decode cX2_write 37 = .ok (.ifCond .eq 6, 3) := by decide +kernel
theorem dX2_write_40 : decode cX2_write 40 = .ok (.bipush (-3), 2) := by decide +kernel
theorem dX2_write_42 : decode cX2_write 42 = .ok (.ireturn, 1) := by decide +kernel
theorem dX2_write_43 : decode cX2_write 43 = .ok (.aload_n 0, 1) := by decide +kernel
theorem dX2_write_44 : decode cX2_write 44 = .ok (.getfield 23, 3) := by decide +kernel
theorem dX2_write_47 : decode cX2_write 47 = .ok (.iload 6, 2) := by decide +kernel
theorem dX2_write_49 : decode cX2_write 49 = .ok (.invokevirtual 58, 3) := by decide +kernel
theorem dX2_write_52 : decode cX2_write 52 = .ok (.pop, 1) := by decide +kernel
theorem dX2_write_53 : decode cX2_write 53 = .ok (.iload 4, 2) := by decide +kernel
theorem dX2_write_55 : decode cX2_write 55 = .ok (.aload_n 0, 1) := by decide +kernel
theorem dX2_write_56 : decode cX2_write 56 = .ok (.getfield 23, 3) := by decide +kernel
theorem dX2_write_59 : decode cX2_write 59 = .ok (.iload 6, 2) := by decide +kernel
theorem dX2_write_61 : decode cX2_write 61 = .ok (.iload 7, 2) := by decide +kernel
theorem dX2_write_63 : decode cX2_write 63 = .ok (.invokevirtual 61, 3) := by decide +kernel
theorem dX2_write_66 : decode cX2_write 66 = .ok (.invokestatic 64, 3) := by decide +kernel
theorem dX2_write_69 : decode cX2_write 69 = .ok (.ifCond .ne 15, 3) := by decide +kernel
theorem dX2_write_72 : decode cX2_write 72 = .ok (.aload_n 0, 1) := by decide +kernel
theorem dX2_write_73 : decode cX2_write 73 = .ok (.getfield 23, 3) := by decide +kernel
theorem dX2_write_76 : decode cX2_write 76 = .ok (.iload 6, 2) := by decide +kernel
theorem dX2_write_78 : decode cX2_write 78 = .ok (.iload 7, 2) := by decide +kernel
theorem dX2_write_80 : decode cX2_write 80 = .ok (.iload_n 3, 1) := by decide +kernel
theorem dX2_write_81 : decode cX2_write 81 = .ok (.invokevirtual 68, 3) := by decide +kernel
theorem dX2_write_84 : decode cX2_write 84 = .ok (.iload 4, 2) := by decide +kernel
theorem dX2_write_86 : decode cX2_write 86 = .ok (.invokestatic 72, 3) := by decide +kernel
theorem dX2_write_89 : decode cX2_write 89 = .ok (.ifCond .eq 8, 3) := by decide +kernel
theorem dX2_write_92 : decode cX2_write 92 = .ok (.bipush (-4), 2) := by decide +kernel
theorem dX2_write_94 : decode cX2_write 94 = .ok (.goto 4, 3) := by decide +kernel
theorem dX2_write_97 : decode cX2_write 97 = .ok (.iconst 0, 1) := by decide +kernel
theorem dX2_write_98 : decode cX2_write 98 = .ok (.ireturn, 1) := by decide +kernel
theorem dX2_blockAt_0 : decode cX2_blockAt 0 = .ok (.iload_n 1, 1) := by decide +kernel
theorem dX2_blockAt_1 : decode cX2_blockAt 1 = .ok (.invokestatic 34, 3) := by decide +kernel
theorem dX2_blockAt_4 : decode cX2_blockAt 4 = .ok (.ifCond .eq 19, 3) := by decide +kernel
theorem dX2_blockAt_7 : decode cX2_blockAt 7 = .ok (.iload_n 2, 1) := by decide +kernel
theorem dX2_blockAt_8 : decode cX2_blockAt 8 = .ok (.ifCond .lt 15, 3) := by decide +kernel
theorem dX2_blockAt_11 : decode cX2_blockAt 11 = .ok (.iload_n 2, 1) := by decide +kernel
theorem dX2_blockAt_12 : decode cX2_blockAt 12 = .ok (.aload_n 0, 1) := by decide +kernel
theorem dX2_blockAt_13 : decode cX2_blockAt 13 = .ok (.getfield 30, 3) := by decide +kernel
theorem dX2_blockAt_16 : decode cX2_blockAt 16 = .ok (.iload_n 1, 1) := by decide +kernel
theorem dX2_blockAt_17 : decode cX2_blockAt 17 = .ok (.invokevirtual 121, 3) := by decide +kernel
theorem dX2_blockAt_20 : decode cX2_blockAt 20 = .ok (.if_icmp .lt 5, 3) := by decide +kernel
theorem dX2_blockAt_23 : decode cX2_blockAt 23 = .ok (.iconst (-1), 1) := by decide +kernel
theorem dX2_blockAt_24 : decode cX2_blockAt 24 = .ok (.ireturn, 1) := by decide +kernel
theorem dX2_blockAt_25 : decode cX2_blockAt 25 = .ok (.aload_n 0, 1) := by decide +kernel
theorem dX2_blockAt_26 : decode cX2_blockAt 26 = .ok (.getfield 30, 3) := by decide +kernel
theorem dX2_blockAt_29 : decode cX2_blockAt 29 = .ok (.iload_n 1, 1) := by decide +kernel
theorem dX2_blockAt_30 : decode cX2_blockAt 30 = .ok (.iload_n 2, 1) := by decide +kernel
theorem dX2_blockAt_31 : decode cX2_blockAt 31 = .ok (.invokevirtual 164, 3) := by decide +kernel
theorem dX2_blockAt_34 : decode cX2_blockAt 34 = .ok (.ireturn, 1) := by decide +kernel
theorem dX0_lengthOf_0 : decode cX0_lengthOf 0 = .ok (.aload_n 0, 1) := by decide +kernel
theorem dX0_lengthOf_1 : decode cX0_lengthOf 1 = .ok (.getfield 15, 3) := by decide +kernel
theorem dX0_lengthOf_4 : decode cX0_lengthOf 4 = .ok (.iload_n 1, 1) := by decide +kernel
theorem dX0_lengthOf_5 : decode cX0_lengthOf 5 = .ok (.iaload, 1) := by decide +kernel
theorem dX0_lengthOf_6 : decode cX0_lengthOf 6 = .ok (.ireturn, 1) := by decide +kernel
theorem dX0_blockOf_0 : decode cX0_blockOf 0 = .ok (.iconst 0, 1) := by decide +kernel
theorem dX0_blockOf_1 : decode cX0_blockOf 1 = .ok (.istore_n 3, 1) := by decide +kernel
theorem dX0_blockOf_2 : decode cX0_blockOf 2 = .ok (.iconst 0, 1) := by decide +kernel
theorem dX0_blockOf_3 : decode cX0_blockOf 3 = .ok (.istore 4, 2) := by decide +kernel
theorem dX0_blockOf_5 : decode cX0_blockOf 5 = .ok (.iload 4, 2) := by decide +kernel
theorem dX0_blockOf_7 : decode cX0_blockOf 7 = .ok (.aload_n 0, 1) := by decide +kernel
theorem dX0_blockOf_8 : decode cX0_blockOf 8 = .ok (.getfield 19, 3) := by decide +kernel
theorem dX0_blockOf_11 : decode cX0_blockOf 11 = .ok (.iload_n 1, 1) := by decide +kernel
theorem dX0_blockOf_12 : decode cX0_blockOf 12 = .ok (.iaload, 1) := by decide +kernel
theorem dX0_blockOf_13 : decode cX0_blockOf 13 = .ok (.if_icmp .ge 47, 3) := by decide +kernel
theorem dX0_blockOf_16 : decode cX0_blockOf 16 = .ok (.iload_n 2, 1) := by decide +kernel
theorem dX0_blockOf_17 : decode cX0_blockOf 17 = .ok (.iload_n 3, 1) := by decide +kernel
theorem dX0_blockOf_18 : decode cX0_blockOf 18 = .ok (.isub, 1) := by decide +kernel
theorem dX0_blockOf_19 : decode cX0_blockOf 19 = .ok (.istore 5, 2) := by decide +kernel
theorem dX0_blockOf_21 : decode cX0_blockOf 21 = .ok (.iload 5, 2) := by decide +kernel
theorem dX0_blockOf_23 : decode cX0_blockOf 23 = .ok (.aload_n 0, 1) := by decide +kernel
theorem dX0_blockOf_24 : decode cX0_blockOf 24 = .ok (.iload_n 1, 1) := by decide +kernel
theorem dX0_blockOf_25 : decode cX0_blockOf 25 = .ok (.iload 4, 2) := by decide +kernel
theorem dX0_blockOf_27 : decode cX0_blockOf 27 = .ok (.invokevirtual 48, 3) := by decide +kernel
theorem dX0_blockOf_30 : decode cX0_blockOf 30 = .ok (.if_icmp .ge 14, 3) := by decide +kernel
theorem dX0_blockOf_33 : decode cX0_blockOf 33 = .ok (.aload_n 0, 1) := by decide +kernel
theorem dX0_blockOf_34 : decode cX0_blockOf 34 = .ok (.iload_n 1, 1) := by decide +kernel
theorem dX0_blockOf_35 : decode cX0_blockOf 35 = .ok (.iload 4, 2) := by decide +kernel
theorem dX0_blockOf_37 : decode cX0_blockOf 37 = .ok (.invokevirtual 44, 3) := by decide +kernel
theorem dX0_blockOf_40 : decode cX0_blockOf 40 = .ok (.iload 5, 2) := by decide +kernel
theorem dX0_blockOf_42 : decode cX0_blockOf 42 = .ok (.iadd, 1) := by decide +kernel
theorem dX0_blockOf_43 : decode cX0_blockOf 43 = .ok (.ireturn, 1) := by decide +kernel
theorem dX0_blockOf_44 : decode cX0_blockOf 44 = .ok (.iload_n 3, 1) := by decide +kernel
theorem dX0_blockOf_45 : decode cX0_blockOf 45 = .ok (.aload_n 0, 1) := by decide +kernel
theorem dX0_blockOf_46 : decode cX0_blockOf 46 = .ok (.iload_n 1, 1) := by decide +kernel
theorem dX0_blockOf_47 : decode cX0_blockOf 47 = .ok (.iload 4, 2) := by decide +kernel
theorem dX0_blockOf_49 : decode cX0_blockOf 49 = .ok (.invokevirtual 48, 3) := by decide +kernel
theorem dX0_blockOf_52 : decode cX0_blockOf 52 = .ok (.iadd, 1) := by decide +kernel
theorem dX0_blockOf_53 : decode cX0_blockOf 53 = .ok (.istore_n 3, 1) := by decide +kernel
theorem dX0_blockOf_54 : decode cX0_blockOf 54 = .ok (.iinc 4 1, 3) := by decide +kernel
theorem dX0_blockOf_57 : decode cX0_blockOf 57 = .ok (.goto (-52), 3) := by decide +kernel
theorem dX0_blockOf_60 : decode cX0_blockOf 60 = .ok (.iconst (-1), 1) := by decide +kernel
theorem dX0_blockOf_61 : decode cX0_blockOf 61 = .ok (.ireturn, 1) := by decide +kernel
theorem dX1_isBroken_0 : decode cX1_isBroken 0 = .ok (.iconst 0, 1) := by decide +kernel
theorem dX1_isBroken_1 : decode cX1_isBroken 1 = .ok (.istore_n 2, 1) := by decide +kernel
theorem dX1_isBroken_2 : decode cX1_isBroken 2 = .ok (.iconst 0, 1) := by decide +kernel
theorem dX1_isBroken_3 : decode cX1_isBroken 3 = .ok (.istore_n 3, 1) := by decide +kernel
theorem dX1_isBroken_4 : decode cX1_isBroken 4 = .ok (.iload_n 3, 1) := by decide +kernel
theorem dX1_isBroken_5 : decode cX1_isBroken 5 = .ok (.iconst 4, 1) := by decide +kernel
theorem dX1_isBroken_6 : decode cX1_isBroken 6 = .ok (.if_icmp .ge 21, 3) := by decide +kernel
theorem dX1_isBroken_9 : decode cX1_isBroken 9 = .ok (.aload_n 0, 1) := by decide +kernel
theorem dX1_isBroken_10 : decode cX1_isBroken 10 = .ok (.iload_n 1, 1) := by decide +kernel
theorem dX1_isBroken_11 : decode cX1_isBroken 11 = .ok (.iload_n 3, 1) := by decide +kernel
theorem dX1_isBroken_12 : decode cX1_isBroken 12 = .ok (.invokevirtual 43, 3) := by decide +kernel
theorem dX1_isBroken_15 : decode cX1_isBroken 15 = .ok (.ifCond .eq 6, 3) := by decide +kernel
theorem dX1_isBroken_18 : decode cX1_isBroken 18 = .ok (.iinc 2 1, 3) := by decide +kernel
theorem dX1_isBroken_21 : decode cX1_isBroken 21 = .ok (.iinc 3 1, 3) := by decide +kernel
theorem dX1_isBroken_24 : decode cX1_isBroken 24 = .ok (.goto (-20), 3) := by decide +kernel
theorem dX1_isBroken_27 : decode cX1_isBroken 27 = .ok (.iload_n 2, 1) := by decide +kernel
theorem dX1_isBroken_28 : decode cX1_isBroken 28 = .ok (.iconst 2, 1) := by decide +kernel
theorem dX1_isBroken_29 : decode cX1_isBroken 29 = .ok (.if_icmp .lt 7, 3) := by decide +kernel
theorem dX1_isBroken_32 : decode cX1_isBroken 32 = .ok (.iconst 1, 1) := by decide +kernel
theorem dX1_isBroken_33 : decode cX1_isBroken 33 = .ok (.goto 4, 3) := by decide +kernel
theorem dX1_isBroken_36 : decode cX1_isBroken 36 = .ok (.iconst 0, 1) := by decide +kernel
theorem dX1_isBroken_37 : decode cX1_isBroken 37 = .ok (.ireturn, 1) := by decide +kernel
theorem dX1_isBad_0 : decode cX1_isBad 0 = .ok (.aload_n 0, 1) := by decide +kernel
theorem dX1_isBad_1 : decode cX1_isBad 1 = .ok (.iload_n 1, 1) := by decide +kernel
theorem dX1_isBad_2 : decode cX1_isBad 2 = .ok (.iload_n 2, 1) := by decide +kernel
theorem dX1_isBad_3 : decode cX1_isBad 3 = .ok (.invokevirtual 36, 3) := by decide +kernel
theorem dX1_isBad_6 : decode cX1_isBad 6 = .ok (.ifCond .ne 12, 3) := by decide +kernel
theorem dX1_isBad_9 : decode cX1_isBad 9 = .ok (.aload_n 0, 1) := by decide +kernel
theorem dX1_isBad_10 : decode cX1_isBad 10 = .ok (.iload_n 1, 1) := by decide +kernel
theorem dX1_isBad_11 : decode cX1_isBad 11 = .ok (.iload_n 2, 1) := by decide +kernel
theorem dX1_isBad_12 : decode cX1_isBad 12 = .ok (.invokevirtual 40, 3) := by decide +kernel
theorem dX1_isBad_15 : decode cX1_isBad 15 = .ok (.ifCond .eq 7, 3) := by decide +kernel
theorem dX1_isBad_18 : decode cX1_isBad 18 = .ok (.iconst 1, 1) := by decide +kernel
theorem dX1_isBad_19 : decode cX1_isBad 19 = .ok (.goto 4, 3) := by decide +kernel
theorem dX1_isBad_22 : decode cX1_isBad 22 = .ok (.iconst 0, 1) := by decide +kernel
theorem dX1_isBad_23 : decode cX1_isBad 23 = .ok (.ireturn, 1) := by decide +kernel
theorem dX1_isLost_0 : decode cX1_isLost 0 = .ok (.aload_n 0, 1) := by decide +kernel
theorem dX1_isLost_1 : decode cX1_isLost 1 = .ok (.getfield 26, 3) := by decide +kernel
theorem dX1_isLost_4 : decode cX1_isLost 4 = .ok (.iload_n 1, 1) := by decide +kernel
theorem dX1_isLost_5 : decode cX1_isLost 5 = .ok (.iload_n 2, 1) := by decide +kernel
theorem dX1_isLost_6 : decode cX1_isLost 6 = .ok (.invokestatic 32, 3) := by decide +kernel
theorem dX1_isLost_9 : decode cX1_isLost 9 = .ok (.baload, 1) := by decide +kernel
theorem dX1_isLost_10 : decode cX1_isLost 10 = .ok (.ireturn, 1) := by decide +kernel
theorem dX1_place_0 : decode cX1_place 0 = .ok (.iload_n 0, 1) := by decide +kernel
theorem dX1_place_1 : decode cX1_place 1 = .ok (.iconst 4, 1) := by decide +kernel
theorem dX1_place_2 : decode cX1_place 2 = .ok (.imul, 1) := by decide +kernel
theorem dX1_place_3 : decode cX1_place 3 = .ok (.iload_n 1, 1) := by decide +kernel
theorem dX1_place_4 : decode cX1_place 4 = .ok (.iadd, 1) := by decide +kernel
theorem dX1_place_5 : decode cX1_place 5 = .ok (.ireturn, 1) := by decide +kernel
theorem dX1_isWrong_0 : decode cX1_isWrong 0 = .ok (.iload_n 1, 1) := by decide +kernel
theorem dX1_isWrong_1 : decode cX1_isWrong 1 = .ok (.iload_n 2, 1) := by decide +kernel
theorem dX1_isWrong_2 : decode cX1_isWrong 2 = .ok (.invokestatic 32, 3) := by decide +kernel
theorem dX1_isWrong_5 : decode cX1_isWrong 5 = .ok (.istore_n 3, 1) := by decide +kernel
theorem dX1_isWrong_6 : decode cX1_isWrong 6 = .ok (.aload_n 0, 1) := by decide +kernel
theorem dX1_isWrong_7 : decode cX1_isWrong 7 = .ok (.getfield 26, 3) := by decide +kernel
theorem dX1_isWrong_10 : decode cX1_isWrong 10 = .ok (.iload_n 3, 1) := by decide +kernel
theorem dX1_isWrong_11 : decode cX1_isWrong 11 = .ok (.baload, 1) := by decide +kernel
theorem dX1_isWrong_12 : decode cX1_isWrong 12 = .ok (.ifCond .ne 22, 3) := by decide +kernel
theorem dX1_isWrong_15 : decode cX1_isWrong 15 = .ok (.aload_n 0, 1) := by decide +kernel
theorem dX1_isWrong_16 : decode cX1_isWrong 16 = .ok (.getfield 23, 3) := by decide +kernel
theorem dX1_isWrong_19 : decode cX1_isWrong 19 = .ok (.iload_n 3, 1) := by decide +kernel
theorem dX1_isWrong_20 : decode cX1_isWrong 20 = .ok (.iaload, 1) := by decide +kernel
theorem dX1_isWrong_21 : decode cX1_isWrong 21 = .ok (.aload_n 0, 1) := by decide +kernel
theorem dX1_isWrong_22 : decode cX1_isWrong 22 = .ok (.getfield 19, 3) := by decide +kernel
theorem dX1_isWrong_25 : decode cX1_isWrong 25 = .ok (.iload_n 3, 1) := by decide +kernel
theorem dX1_isWrong_26 : decode cX1_isWrong 26 = .ok (.iaload, 1) := by decide +kernel
theorem dX1_isWrong_27 : decode cX1_isWrong 27 = .ok (.if_icmp .eq 7, 3) := by decide +kernel
theorem dX1_isWrong_30 : decode cX1_isWrong 30 = .ok (.iconst 1, 1) := by decide +kernel
theorem dX1_isWrong_31 : decode cX1_isWrong 31 = .ok (.goto 4, 3) := by decide +kernel
theorem dX1_isWrong_34 : decode cX1_isWrong 34 = .ok (.iconst 0, 1) := by decide +kernel
theorem dX1_isWrong_35 : decode cX1_isWrong 35 = .ok (.ireturn, 1) := by decide +kernel
theorem dX1_mendAll_0 : decode cX1_mendAll 0 = .ok (.iconst 0, 1) := by decide +kernel
theorem dX1_mendAll_1 : decode cX1_mendAll 1 = .ok (.istore_n 2, 1) := by decide +kernel
theorem dX1_mendAll_2 : decode cX1_mendAll 2 = .ok (.iconst 0, 1) := by decide +kernel
theorem dX1_mendAll_3 : decode cX1_mendAll 3 = .ok (.istore_n 3, 1) := by decide +kernel
theorem dX1_mendAll_4 : decode cX1_mendAll 4 = .ok (.iload_n 3, 1) := by decide +kernel
theorem dX1_mendAll_5 : decode cX1_mendAll 5 = .ok (.iconst 4, 1) := by decide +kernel
theorem dX1_mendAll_6 : decode cX1_mendAll 6 = .ok (.if_icmp .ge 21, 3) := by decide +kernel
theorem dX1_mendAll_9 : decode cX1_mendAll 9 = .ok (.aload_n 0, 1) := by decide +kernel
theorem dX1_mendAll_10 : decode cX1_mendAll 10 = .ok (.iload_n 1, 1) := by decide +kernel
theorem dX1_mendAll_11 : decode cX1_mendAll 11 = .ok (.iload_n 3, 1) := by decide +kernel
theorem dX1_mendAll_12 : decode cX1_mendAll 12 = .ok (.invokevirtual 46, 3) := by decide +kernel
theorem dX1_mendAll_15 : decode cX1_mendAll 15 = .ok (.ifCond .eq 6, 3) := by decide +kernel
theorem dX1_mendAll_18 : decode cX1_mendAll 18 = .ok (.iinc 2 1, 3) := by decide +kernel
theorem dX1_mendAll_21 : decode cX1_mendAll 21 = .ok (.iinc 3 1, 3) := by decide +kernel
theorem dX1_mendAll_24 : decode cX1_mendAll 24 = .ok (.goto (-20), 3) := by decide +kernel
theorem dX1_mendAll_27 : decode cX1_mendAll 27 = .ok (.iload_n 2, 1) := by decide +kernel
theorem dX1_mendAll_28 : decode cX1_mendAll 28 = .ok (.ireturn, 1) := by decide +kernel
theorem dX1_mend_0 : decode cX1_mend 0 = .ok (.aload_n 0, 1) := by decide +kernel
theorem dX1_mend_1 : decode cX1_mend 1 = .ok (.iload_n 1, 1) := by decide +kernel
theorem dX1_mend_2 : decode cX1_mend 2 = .ok (.iload_n 2, 1) := by decide +kernel
theorem dX1_mend_3 : decode cX1_mend 3 = .ok (.invokevirtual 40, 3) := by decide +kernel
theorem dX1_mend_6 : decode cX1_mend 6 = .ok (.ifCond .ne 5, 3) := by decide +kernel
theorem dX1_mend_9 : decode cX1_mend 9 = .ok (.iconst 0, 1) := by decide +kernel
theorem dX1_mend_10 : decode cX1_mend 10 = .ok (.ireturn, 1) := by decide +kernel
theorem dX1_mend_11 : decode cX1_mend 11 = .ok (.iload_n 1, 1) := by decide +kernel
theorem dX1_mend_12 : decode cX1_mend 12 = .ok (.iload_n 2, 1) := by decide +kernel
theorem dX1_mend_13 : decode cX1_mend 13 = .ok (.invokestatic 32, 3) := by decide +kernel
theorem dX1_mend_16 : decode cX1_mend 16 = .ok (.istore_n 3, 1) := by decide +kernel
theorem dX1_mend_17 : decode cX1_mend 17 = .ok (.aload_n 0, 1) := by decide +kernel
theorem dX1_mend_18 : decode cX1_mend 18 = .ok (.getfield 23, 3) := by decide +kernel
theorem dX1_mend_21 : decode cX1_mend 21 = .ok (.iload_n 3, 1) := by decide +kernel
theorem dX1_mend_22 : decode cX1_mend 22 = .ok (.aload_n 0, 1) := by decide +kernel
theorem dX1_mend_23 : decode cX1_mend 23 = .ok (.getfield 19, 3) := by decide +kernel
theorem dX1_mend_26 : decode cX1_mend 26 = .ok (.iload_n 3, 1) := by decide +kernel
theorem dX1_mend_27 : decode cX1_mend 27 = .ok (.iaload, 1) := by decide +kernel
theorem dX1_mend_28 : decode cX1_mend 28 = .ok (.iastore, 1) := by decide +kernel
theorem dX1_mend_29 : decode cX1_mend 29 = .ok (.iconst 1, 1) := by decide +kernel
theorem dX1_mend_30 : decode cX1_mend 30 = .ok (.ireturn, 1) := by decide +kernel
theorem dX2_keepsOldValue_0 : decode cX2_keepsOldValue 0 = .ok (.iload_n 0, 1) := by decide +kernel
theorem dX2_keepsOldValue_1 : decode cX2_keepsOldValue 1 = .ok (.ifCond .eq 17, 3) := by decide +kernel
theorem dX2_keepsOldValue_4 : decode cX2_keepsOldValue 4 = .ok (.iload_n 0, 1) := by decide +kernel
theorem dX2_keepsOldValue_5 : decode cX2_keepsOldValue 5 = .ok (.iconst 1, 1) := by decide +kernel
theorem dX2_keepsOldValue_6 : decode cX2_keepsOldValue 6 = .ok (.if_icmp .eq 12, 3) := by decide +kernel
theorem dX2_keepsOldValue_9 : decode cX2_keepsOldValue 9 = .ok (.iload_n 0, 1) := by decide +kernel
theorem dX2_keepsOldValue_10 : decode cX2_keepsOldValue 10 = .ok (.iconst 2, 1) := by decide +kernel
theorem dX2_keepsOldValue_11 : decode cX2_keepsOldValue 11 = .ok (.if_icmp .ne 11, 3) := by decide +kernel
theorem dX2_keepsOldValue_14 : decode cX2_keepsOldValue 14 = .ok (.iload_n 1, 1) := by decide +kernel
theorem dX2_keepsOldValue_15 : decode cX2_keepsOldValue 15 = .ok (.ifCond .eq 7, 3) := by decide +kernel
theorem dX2_keepsOldValue_18 : decode cX2_keepsOldValue 18 = .ok (.iconst 1, 1) := by decide +kernel
theorem dX2_keepsOldValue_19 : decode cX2_keepsOldValue 19 = .ok (.goto 4, 3) := by decide +kernel
theorem dX2_keepsOldValue_22 : decode cX2_keepsOldValue 22 = .ok (.iconst 0, 1) := by decide +kernel
theorem dX2_keepsOldValue_23 : decode cX2_keepsOldValue 23 = .ok (.ireturn, 1) := by decide +kernel
theorem dX1_setBlock_0 : decode cX1_setBlock 0 = .ok (.aload_n 0, 1) := by decide +kernel
theorem dX1_setBlock_1 : decode cX1_setBlock 1 = .ok (.iload_n 1, 1) := by decide +kernel
theorem dX1_setBlock_2 : decode cX1_setBlock 2 = .ok (.iload_n 2, 1) := by decide +kernel
theorem dX1_setBlock_3 : decode cX1_setBlock 3 = .ok (.invokevirtual 49, 3) := by decide +kernel
theorem dX1_setBlock_6 : decode cX1_setBlock 6 = .ok (.iload_n 3, 1) := by decide +kernel
theorem dX1_setBlock_7 : decode cX1_setBlock 7 = .ok (.ixor, 1) := by decide +kernel
theorem dX1_setBlock_8 : decode cX1_setBlock 8 = .ok (.istore 4, 2) := by decide +kernel
theorem dX1_setBlock_10 : decode cX1_setBlock 10 = .ok (.aload_n 0, 1) := by decide +kernel
theorem dX1_setBlock_11 : decode cX1_setBlock 11 = .ok (.iload_n 1, 1) := by decide +kernel
theorem dX1_setBlock_12 : decode cX1_setBlock 12 = .ok (.iload_n 2, 1) := by decide +kernel
theorem dX1_setBlock_13 : decode cX1_setBlock 13 = .ok (.iload 4, 2) := by decide +kernel
theorem dX1_setBlock_15 : decode cX1_setBlock 15 = .ok (.invokevirtual 52, 3) := by decide +kernel
theorem dX1_setBlock_18 : decode cX1_setBlock 18 = .ok (.aload_n 0, 1) := by decide +kernel
theorem dX1_setBlock_19 : decode cX1_setBlock 19 = .ok (.iload_n 1, 1) := by decide +kernel
theorem dX1_setBlock_20 : decode cX1_setBlock 20 = .ok (.iconst 3, 1) := by decide +kernel
theorem dX1_setBlock_21 : decode cX1_setBlock 21 = .ok (.iload 4, 2) := by decide +kernel
theorem dX1_setBlock_23 : decode cX1_setBlock 23 = .ok (.invokevirtual 52, 3) := by decide +kernel
theorem dX1_setBlock_26 : decode cX1_setBlock 26 = .ok (.return_, 1) := by decide +kernel
theorem dX1_dueWord_0 : decode cX1_dueWord 0 = .ok (.aload_n 0, 1) := by decide +kernel
theorem dX1_dueWord_1 : decode cX1_dueWord 1 = .ok (.getfield 19, 3) := by decide +kernel
theorem dX1_dueWord_4 : decode cX1_dueWord 4 = .ok (.iload_n 1, 1) := by decide +kernel
theorem dX1_dueWord_5 : decode cX1_dueWord 5 = .ok (.iload_n 2, 1) := by decide +kernel
theorem dX1_dueWord_6 : decode cX1_dueWord 6 = .ok (.invokestatic 32, 3) := by decide +kernel
theorem dX1_dueWord_9 : decode cX1_dueWord 9 = .ok (.iaload, 1) := by decide +kernel
theorem dX1_dueWord_10 : decode cX1_dueWord 10 = .ok (.ireturn, 1) := by decide +kernel
theorem dX1_changeWord_0 : decode cX1_changeWord 0 = .ok (.iload_n 1, 1) := by decide +kernel
theorem dX1_changeWord_1 : decode cX1_changeWord 1 = .ok (.iload_n 2, 1) := by decide +kernel
theorem dX1_changeWord_2 : decode cX1_changeWord 2 = .ok (.invokestatic 32, 3) := by decide +kernel
theorem dX1_changeWord_5 : decode cX1_changeWord 5 = .ok (.istore 4, 2) := by decide +kernel
theorem dX1_changeWord_7 : decode cX1_changeWord 7 = .ok (.aload_n 0, 1) := by decide +kernel
theorem dX1_changeWord_8 : decode cX1_changeWord 8 = .ok (.getfield 19, 3) := by decide +kernel
theorem dX1_changeWord_11 : decode cX1_changeWord 11 = .ok (.iload 4, 2) := by decide +kernel
theorem dX1_changeWord_13 : decode cX1_changeWord 13 = .ok (.dup2, 1) := by decide +kernel
theorem dX1_changeWord_14 : decode cX1_changeWord 14 = .ok (.iaload, 1) := by decide +kernel
theorem dX1_changeWord_15 : decode cX1_changeWord 15 = .ok (.iload_n 3, 1) := by decide +kernel
theorem dX1_changeWord_16 : decode cX1_changeWord 16 = .ok (.ixor, 1) := by decide +kernel
theorem dX1_changeWord_17 : decode cX1_changeWord 17 = .ok (.iastore, 1) := by decide +kernel
theorem dX1_changeWord_18 : decode cX1_changeWord 18 = .ok (.aload_n 0, 1) := by decide +kernel
theorem dX1_changeWord_19 : decode cX1_changeWord 19 = .ok (.getfield 26, 3) := by decide +kernel
theorem dX1_changeWord_22 : decode cX1_changeWord 22 = .ok (.iload 4, 2) := by decide +kernel
theorem dX1_changeWord_24 : decode cX1_changeWord 24 = .ok (.baload, 1) := by decide +kernel
theorem dX1_changeWord_25 : decode cX1_changeWord 25 = .ok (.ifCond .ne 17, 3) := by decide +kernel
theorem dX1_changeWord_28 : decode cX1_changeWord 28 = .ok (.aload_n 0, 1) := by decide +kernel
theorem dX1_changeWord_29 : decode cX1_changeWord 29 = .ok (.getfield 23, 3) := by decide +kernel
theorem dX1_changeWord_32 : decode cX1_changeWord 32 = .ok (.iload 4, 2) := by decide +kernel
theorem dX1_changeWord_34 : decode cX1_changeWord 34 = .ok (.aload_n 0, 1) := by decide +kernel
theorem dX1_changeWord_35 : decode cX1_changeWord 35 = .ok (.getfield 19, 3) := by decide +kernel
theorem dX1_changeWord_38 : decode cX1_changeWord 38 = .ok (.iload 4, 2) := by decide +kernel
theorem dX1_changeWord_40 : decode cX1_changeWord 40 = .ok (.iaload, 1) := by decide +kernel
theorem dX1_changeWord_41 : decode cX1_changeWord 41 = .ok (.iastore, 1) := by decide +kernel
theorem dX1_changeWord_42 : decode cX1_changeWord 42 = .ok (.return_, 1) := by decide +kernel
theorem dX2_isCrash_0 : decode cX2_isCrash 0 = .ok (.iload_n 0, 1) := by decide +kernel
theorem dX2_isCrash_1 : decode cX2_isCrash 1 = .ok (.ifCond .lt 12, 3) := by decide +kernel
theorem dX2_isCrash_4 : decode cX2_isCrash 4 = .ok (.iload_n 0, 1) := by decide +kernel
theorem dX2_isCrash_5 : decode cX2_isCrash 5 = .ok (.iconst 3, 1) := by decide +kernel
theorem dX2_isCrash_6 : decode cX2_isCrash 6 = .ok (.if_icmp .gt 7, 3) := by decide +kernel
theorem dX2_isCrash_9 : decode cX2_isCrash 9 = .ok (.iconst 1, 1) := by decide +kernel
theorem dX2_isCrash_10 : decode cX2_isCrash 10 = .ok (.goto 4, 3) := by decide +kernel
theorem dX2_isCrash_13 : decode cX2_isCrash 13 = .ok (.iconst 0, 1) := by decide +kernel
theorem dX2_isCrash_14 : decode cX2_isCrash 14 = .ok (.ireturn, 1) := by decide +kernel
theorem dX2_read_0 : decode cX2_read 0 = .ok (.aload_n 0, 1) := by decide +kernel
theorem dX2_read_1 : decode cX2_read 1 = .ok (.iload_n 1, 1) := by decide +kernel
theorem dX2_read_2 : decode cX2_read 2 = .ok (.iload_n 2, 1) := by decide +kernel
theorem dX2_read_3 : decode cX2_read 3 = .ok (.invokevirtual 52, 3) := by decide +kernel
theorem dX2_read_6 : decode cX2_read 6 = .ok (.istore_n 3, 1) := by decide +kernel
theorem dX2_read_7 : decode cX2_read 7 = .ok (.iload_n 3, 1) := by decide +kernel
theorem dX2_read_8 : decode cX2_read 8 = .ok (.iconst (-1), 1) := by decide +kernel
theorem dX2_read_9 : decode cX2_read 9 = .ok (.if_icmp .ne 7, 3) := by decide +kernel
theorem dX2_read_12 : decode cX2_read 12 = .ok (.ldc2_w 75, 3) := by decide +kernel
theorem dX2_read_15 : decode cX2_read 15 = .ok (.lreturn, 1) := by decide +kernel
theorem dX2_read_16 : decode cX2_read 16 = .ok (.iload_n 3, 1) := by decide +kernel
theorem dX2_read_17 : decode cX2_read 17 = .ok (.iconst 3, 1) := by decide +kernel
theorem dX2_read_18 : decode cX2_read 18 = .ok (.idiv, 1) := by decide +kernel
theorem dX2_read_19 : decode cX2_read 19 = .ok (.istore 4, 2) := by decide +kernel
theorem dX2_read_21 : decode cX2_read 21 = .ok (.iload_n 3, 1) := by decide +kernel
theorem dX2_read_22 : decode cX2_read 22 = .ok (.iconst 3, 1) := by decide +kernel
theorem dX2_read_23 : decode cX2_read 23 = .ok (.irem, 1) := by decide +kernel
theorem dX2_read_24 : decode cX2_read 24 = .ok (.istore 5, 2) := by decide +kernel
theorem dX2_read_26 : decode cX2_read 26 = .ok (.aload_n 0, 1) := by decide +kernel
theorem dX2_read_27 : decode cX2_read 27 = .ok (.getfield 23, 3) := by decide +kernel
theorem dX2_read_30 : decode cX2_read 30 = .ok (.iload 4, 2) := by decide +kernel
theorem dX2_read_32 : decode cX2_read 32 = .ok (.iload 5, 2) := by decide +kernel
theorem dX2_read_34 : decode cX2_read 34 = .ok (.invokevirtual 77, 3) := by decide +kernel
theorem dX2_read_37 : decode cX2_read 37 = .ok (.ifCond .eq 19, 3) := by decide +kernel
theorem dX2_read_40 : decode cX2_read 40 = .ok (.aload_n 0, 1) := by decide +kernel
theorem dX2_read_41 : decode cX2_read 41 = .ok (.getfield 23, 3) := by decide +kernel
theorem dX2_read_44 : decode cX2_read 44 = .ok (.iload 4, 2) := by decide +kernel
theorem dX2_read_46 : decode cX2_read 46 = .ok (.invokevirtual 55, 3) := by decide +kernel
theorem dX2_read_49 : decode cX2_read 49 = .ok (.ifCond .eq 7, 3) := by decide +kernel
theorem dX2_read_52 : decode cX2_read 52 = .ok (.ldc2_w 80, 3) := by decide +kernel
theorem dX2_read_55 : decode cX2_read 55 = .ok (.lreturn, 1) := by decide +kernel
theorem dX2_read_56 : decode cX2_read 56 = .ok (.aload_n 0, 1) := by decide +kernel
theorem dX2_read_57 : decode cX2_read 57 = .ok (.getfield 23, 3) := by decide +kernel
theorem dX2_read_60 : decode cX2_read 60 = .ok (.iload 4, 2) := by decide +kernel
theorem dX2_read_62 : decode cX2_read 62 = .ok (.iload 5, 2) := by decide +kernel
theorem dX2_read_64 : decode cX2_read 64 = .ok (.invokevirtual 82, 3) := by decide +kernel
theorem dX2_read_67 : decode cX2_read 67 = .ok (.pop, 1) := by decide +kernel
theorem dX2_read_68 : decode cX2_read 68 = .ok (.aload_n 0, 1) := by decide +kernel
theorem dX2_read_69 : decode cX2_read 69 = .ok (.getfield 23, 3) := by decide +kernel
theorem dX2_read_72 : decode cX2_read 72 = .ok (.iload 4, 2) := by decide +kernel
theorem dX2_read_74 : decode cX2_read 74 = .ok (.iload 5, 2) := by decide +kernel
theorem dX2_read_76 : decode cX2_read 76 = .ok (.invokevirtual 85, 3) := by decide +kernel
theorem dX2_read_79 : decode cX2_read 79 = .ok (.i2l, 1) := by decide +kernel
theorem dX2_read_80 : decode cX2_read 80 = .ok (.lreturn, 1) := by decide +kernel
theorem dX2_fail_0 : decode cX2_fail 0 = .ok (.iload_n 1, 1) := by decide +kernel
theorem dX2_fail_1 : decode cX2_fail 1 = .ok (.invokestatic 88, 3) := by decide +kernel
theorem dX2_fail_4 : decode cX2_fail 4 = .ok (.ifCond .eq 14, 3) := by decide +kernel
theorem dX2_fail_7 : decode cX2_fail 7 = .ok (.aload_n 0, 1) := by decide +kernel
theorem dX2_fail_8 : decode cX2_fail 8 = .ok (.getfield 23, 3) := by decide +kernel
theorem dX2_fail_11 : decode cX2_fail 11 = .ok (.iload_n 1, 1) := by decide +kernel
theorem dX2_fail_12 : decode cX2_fail 12 = .ok (.invokevirtual 91, 3) := by decide +kernel
theorem dX2_fail_15 : decode cX2_fail 15 = .ok (.ifCond .ne 5, 3) := by decide +kernel
theorem dX2_fail_18 : decode cX2_fail 18 = .ok (.iconst (-1), 1) := by decide +kernel
theorem dX2_fail_19 : decode cX2_fail 19 = .ok (.ireturn, 1) := by decide +kernel
theorem dX2_fail_20 : decode cX2_fail 20 = .ok (.aload_n 0, 1) := by decide +kernel
theorem dX2_fail_21 : decode cX2_fail 21 = .ok (.getfield 23, 3) := by decide +kernel
theorem dX2_fail_24 : decode cX2_fail 24 = .ok (.iload_n 1, 1) := by decide +kernel
theorem dX2_fail_25 : decode cX2_fail 25 = .ok (.invokevirtual 94, 3) := by decide +kernel
theorem dX2_fail_28 : decode cX2_fail 28 = .ok (.ireturn, 1) := by decide +kernel
theorem dX2_isDisk_0 : decode cX2_isDisk 0 = .ok (.iload_n 0, 1) := by decide +kernel
theorem dX2_isDisk_1 : decode cX2_isDisk 1 = .ok (.ifCond .lt 13, 3) := by decide +kernel
theorem dX2_isDisk_4 : decode cX2_isDisk 4 = .ok (.iload_n 0, 1) := by decide +kernel
theorem dX2_isDisk_5 : decode cX2_isDisk 5 = .ok (.bipush 7, 2) := by decide +kernel
theorem dX2_isDisk_7 : decode cX2_isDisk 7 = .ok (.if_icmp .ge 7, 3) := by decide +kernel
theorem dX2_isDisk_10 : decode cX2_isDisk 10 = .ok (.iconst 1, 1) := by decide +kernel
theorem dX2_isDisk_11 : decode cX2_isDisk 11 = .ok (.goto 4, 3) := by decide +kernel
theorem dX2_isDisk_14 : decode cX2_isDisk 14 = .ok (.iconst 0, 1) := by decide +kernel
theorem dX2_isDisk_15 : decode cX2_isDisk 15 = .ok (.ireturn, 1) := by decide +kernel
theorem dX1_isPresent_0 : decode cX1_isPresent 0 = .ok (.aload_n 0, 1) := by decide +kernel
theorem dX1_isPresent_1 : decode cX1_isPresent 1 = .ok (.getfield 15, 3) := by decide +kernel
theorem dX1_isPresent_4 : decode cX1_isPresent 4 = .ok (.iload_n 1, 1) := by decide +kernel
theorem dX1_isPresent_5 : decode cX1_isPresent 5 = .ok (.baload, 1) := by decide +kernel
theorem dX1_isPresent_6 : decode cX1_isPresent 6 = .ok (.ireturn, 1) := by decide +kernel
theorem dX1_takeOut_0 : decode cX1_takeOut 0 = .ok (.aload_n 0, 1) := by decide +kernel
theorem dX1_takeOut_1 : decode cX1_takeOut 1 = .ok (.getfield 15, 3) := by decide +kernel
theorem dX1_takeOut_4 : decode cX1_takeOut 4 = .ok (.iload_n 1, 1) := by decide +kernel
theorem dX1_takeOut_5 : decode cX1_takeOut 5 = .ok (.iconst 0, 1) := by decide +kernel
theorem dX1_takeOut_6 : decode cX1_takeOut 6 = .ok (.bastore, 1) := by decide +kernel
theorem dX1_takeOut_7 : decode cX1_takeOut 7 = .ok (.iconst 0, 1) := by decide +kernel
theorem dX1_takeOut_8 : decode cX1_takeOut 8 = .ok (.istore_n 2, 1) := by decide +kernel
theorem dX1_takeOut_9 : decode cX1_takeOut 9 = .ok (.iconst 0, 1) := by decide +kernel
theorem dX1_takeOut_10 : decode cX1_takeOut 10 = .ok (.istore_n 3, 1) := by decide +kernel
theorem dX1_takeOut_11 : decode cX1_takeOut 11 = .ok (.iload_n 3, 1) := by decide +kernel
theorem dX1_takeOut_12 : decode cX1_takeOut 12 = .ok (.aload_n 0, 1) := by decide +kernel
theorem dX1_takeOut_13 : decode cX1_takeOut 13 = .ok (.getfield 9, 3) := by decide +kernel
theorem dX1_takeOut_16 : decode cX1_takeOut 16 = .ok (.if_icmp .ge 45, 3) := by decide +kernel
theorem dX1_takeOut_19 : decode cX1_takeOut 19 = .ok (.iconst 0, 1) := by decide +kernel
theorem dX1_takeOut_20 : decode cX1_takeOut 20 = .ok (.istore 4, 2) := by decide +kernel
theorem dX1_takeOut_22 : decode cX1_takeOut 22 = .ok (.iload 4, 2) := by decide +kernel
theorem dX1_takeOut_24 : decode cX1_takeOut 24 = .ok (.iconst 4, 1) := by decide +kernel
theorem dX1_takeOut_25 : decode cX1_takeOut 25 = .ok (.if_icmp .ge 30, 3) := by decide +kernel
theorem dX1_takeOut_28 : decode cX1_takeOut 28 = .ok (.aload_n 0, 1) := by decide +kernel
theorem dX1_takeOut_29 : decode cX1_takeOut 29 = .ok (.iload_n 3, 1) := by decide +kernel
theorem dX1_takeOut_30 : decode cX1_takeOut 30 = .ok (.iload 4, 2) := by decide +kernel
theorem dX1_takeOut_32 : decode cX1_takeOut 32 = .ok (.iload_n 1, 1) := by decide +kernel
theorem dX1_takeOut_33 : decode cX1_takeOut 33 = .ok (.invokevirtual 56, 3) := by decide +kernel
theorem dX1_takeOut_36 : decode cX1_takeOut 36 = .ok (.ifCond .eq 13, 3) := by decide +kernel
theorem dX1_takeOut_39 : decode cX1_takeOut 39 = .ok (.aload_n 0, 1) := by decide +kernel
theorem dX1_takeOut_40 : decode cX1_takeOut 40 = .ok (.iload_n 3, 1) := by decide +kernel
theorem dX1_takeOut_41 : decode cX1_takeOut 41 = .ok (.iload 4, 2) := by decide +kernel
theorem dX1_takeOut_43 : decode cX1_takeOut 43 = .ok (.invokevirtual 60, 3) := by decide +kernel
theorem dX1_takeOut_46 : decode cX1_takeOut 46 = .ok (.iinc 2 1, 3) := by decide +kernel
theorem dX1_takeOut_49 : decode cX1_takeOut 49 = .ok (.iinc 4 1, 3) := by decide +kernel
theorem dX1_takeOut_52 : decode cX1_takeOut 52 = .ok (.goto (-30), 3) := by decide +kernel
theorem dX1_takeOut_55 : decode cX1_takeOut 55 = .ok (.iinc 3 1, 3) := by decide +kernel
theorem dX1_takeOut_58 : decode cX1_takeOut 58 = .ok (.goto (-47), 3) := by decide +kernel
theorem dX1_takeOut_61 : decode cX1_takeOut 61 = .ok (.iload_n 2, 1) := by decide +kernel
theorem dX1_takeOut_62 : decode cX1_takeOut 62 = .ok (.ireturn, 1) := by decide +kernel
theorem dX1_isOn_0 : decode cX1_isOn 0 = .ok (.aload_n 0, 1) := by decide +kernel
theorem dX1_isOn_1 : decode cX1_isOn 1 = .ok (.iload_n 1, 1) := by decide +kernel
theorem dX1_isOn_2 : decode cX1_isOn 2 = .ok (.iload_n 2, 1) := by decide +kernel
theorem dX1_isOn_3 : decode cX1_isOn 3 = .ok (.invokevirtual 36, 3) := by decide +kernel
theorem dX1_isOn_6 : decode cX1_isOn 6 = .ok (.ifCond .eq 5, 3) := by decide +kernel
theorem dX1_isOn_9 : decode cX1_isOn 9 = .ok (.iconst 0, 1) := by decide +kernel
theorem dX1_isOn_10 : decode cX1_isOn 10 = .ok (.ireturn, 1) := by decide +kernel
theorem dX1_isOn_11 : decode cX1_isOn 11 = .ok (.iload_n 3, 1) := by decide +kernel
theorem dX1_isOn_12 : decode cX1_isOn 12 = .ok (.aload_n 0, 1) := by decide +kernel
theorem dX1_isOn_13 : decode cX1_isOn 13 = .ok (.getfield 29, 3) := by decide +kernel
theorem dX1_isOn_16 : decode cX1_isOn 16 = .ok (.iload_n 1, 1) := by decide +kernel
theorem dX1_isOn_17 : decode cX1_isOn 17 = .ok (.iaload, 1) := by decide +kernel
theorem dX1_isOn_18 : decode cX1_isOn 18 = .ok (.iload_n 2, 1) := by decide +kernel
theorem dX1_isOn_19 : decode cX1_isOn 19 = .ok (.if_icmp .ne 10, 3) := by decide +kernel
theorem dX1_isOn_22 : decode cX1_isOn 22 = .ok (.iload_n 1, 1) := by decide +kernel
theorem dX1_isOn_23 : decode cX1_isOn 23 = .ok (.invokestatic 81, 3) := by decide +kernel
theorem dX1_isOn_26 : decode cX1_isOn 26 = .ok (.goto 8, 3) := by decide +kernel
theorem dX1_isOn_29 : decode cX1_isOn 29 = .ok (.iload_n 1, 1) := by decide +kernel
theorem dX1_isOn_30 : decode cX1_isOn 30 = .ok (.iload_n 2, 1) := by decide +kernel
theorem dX1_isOn_31 : decode cX1_isOn 31 = .ok (.invokestatic 68, 3) := by decide +kernel
theorem dX1_isOn_34 : decode cX1_isOn 34 = .ok (.if_icmp .ne 7, 3) := by decide +kernel
theorem dX1_isOn_37 : decode cX1_isOn 37 = .ok (.iconst 1, 1) := by decide +kernel
theorem dX1_isOn_38 : decode cX1_isOn 38 = .ok (.goto 4, 3) := by decide +kernel
theorem dX1_isOn_41 : decode cX1_isOn 41 = .ok (.iconst 0, 1) := by decide +kernel
theorem dX1_isOn_42 : decode cX1_isOn 42 = .ok (.ireturn, 1) := by decide +kernel
theorem dX1_spare_0 : decode cX1_spare 0 = .ok (.iload_n 0, 1) := by decide +kernel
theorem dX1_spare_1 : decode cX1_spare 1 = .ok (.bipush 7, 2) := by decide +kernel
theorem dX1_spare_3 : decode cX1_spare 3 = .ok (.irem, 1) := by decide +kernel
theorem dX1_spare_4 : decode cX1_spare 4 = .ok (.ireturn, 1) := by decide +kernel
theorem dX1_home_0 : decode cX1_home 0 = .ok (.iload_n 0, 1) := by decide +kernel
theorem dX1_home_1 : decode cX1_home 1 = .ok (.bipush 7, 2) := by decide +kernel
theorem dX1_home_3 : decode cX1_home 3 = .ok (.irem, 1) := by decide +kernel
theorem dX1_home_4 : decode cX1_home 4 = .ok (.getstatic 84, 3) := by decide +kernel
theorem dX1_home_7 : decode cX1_home 7 = .ok (.iload_n 1, 1) := by decide +kernel
theorem dX1_home_8 : decode cX1_home 8 = .ok (.iaload, 1) := by decide +kernel
theorem dX1_home_9 : decode cX1_home 9 = .ok (.iadd, 1) := by decide +kernel
theorem dX1_home_10 : decode cX1_home 10 = .ok (.bipush 7, 2) := by decide +kernel
theorem dX1_home_12 : decode cX1_home 12 = .ok (.irem, 1) := by decide +kernel
theorem dX1_home_13 : decode cX1_home 13 = .ok (.ireturn, 1) := by decide +kernel
theorem dX1_lose_0 : decode cX1_lose 0 = .ok (.aload_n 0, 1) := by decide +kernel
theorem dX1_lose_1 : decode cX1_lose 1 = .ok (.getfield 26, 3) := by decide +kernel
theorem dX1_lose_4 : decode cX1_lose 4 = .ok (.iload_n 1, 1) := by decide +kernel
theorem dX1_lose_5 : decode cX1_lose 5 = .ok (.iload_n 2, 1) := by decide +kernel
theorem dX1_lose_6 : decode cX1_lose 6 = .ok (.invokestatic 32, 3) := by decide +kernel
theorem dX1_lose_9 : decode cX1_lose 9 = .ok (.iconst 1, 1) := by decide +kernel
theorem dX1_lose_10 : decode cX1_lose 10 = .ok (.bastore, 1) := by decide +kernel
theorem dX1_lose_11 : decode cX1_lose 11 = .ok (.aload_n 0, 1) := by decide +kernel
theorem dX1_lose_12 : decode cX1_lose 12 = .ok (.getfield 29, 3) := by decide +kernel
theorem dX1_lose_15 : decode cX1_lose 15 = .ok (.iload_n 1, 1) := by decide +kernel
theorem dX1_lose_16 : decode cX1_lose 16 = .ok (.iaload, 1) := by decide +kernel
theorem dX1_lose_17 : decode cX1_lose 17 = .ok (.iload_n 2, 1) := by decide +kernel
theorem dX1_lose_18 : decode cX1_lose 18 = .ok (.if_icmp .ne 10, 3) := by decide +kernel
theorem dX1_lose_21 : decode cX1_lose 21 = .ok (.aload_n 0, 1) := by decide +kernel
theorem dX1_lose_22 : decode cX1_lose 22 = .ok (.getfield 29, 3) := by decide +kernel
theorem dX1_lose_25 : decode cX1_lose 25 = .ok (.iload_n 1, 1) := by decide +kernel
theorem dX1_lose_26 : decode cX1_lose 26 = .ok (.iconst 4, 1) := by decide +kernel
theorem dX1_lose_27 : decode cX1_lose 27 = .ok (.iastore, 1) := by decide +kernel
theorem dX1_lose_28 : decode cX1_lose 28 = .ok (.return_, 1) := by decide +kernel
theorem dX2_replace_0 : decode cX2_replace 0 = .ok (.iload_n 1, 1) := by decide +kernel
theorem dX2_replace_1 : decode cX2_replace 1 = .ok (.invokestatic 88, 3) := by decide +kernel
theorem dX2_replace_4 : decode cX2_replace 4 = .ok (.ifCond .eq 14, 3) := by decide +kernel
theorem dX2_replace_7 : decode cX2_replace 7 = .ok (.aload_n 0, 1) := by decide +kernel
theorem dX2_replace_8 : decode cX2_replace 8 = .ok (.getfield 23, 3) := by decide +kernel
theorem dX2_replace_11 : decode cX2_replace 11 = .ok (.iload_n 1, 1) := by decide +kernel
theorem dX2_replace_12 : decode cX2_replace 12 = .ok (.invokevirtual 91, 3) := by decide +kernel
theorem dX2_replace_15 : decode cX2_replace 15 = .ok (.ifCond .eq 5, 3) := by decide +kernel
theorem dX2_replace_18 : decode cX2_replace 18 = .ok (.iconst (-1), 1) := by decide +kernel
theorem dX2_replace_19 : decode cX2_replace 19 = .ok (.ireturn, 1) := by decide +kernel
theorem dX2_replace_20 : decode cX2_replace 20 = .ok (.aload_n 0, 1) := by decide +kernel
theorem dX2_replace_21 : decode cX2_replace 21 = .ok (.getfield 23, 3) := by decide +kernel
theorem dX2_replace_24 : decode cX2_replace 24 = .ok (.iload_n 1, 1) := by decide +kernel
theorem dX2_replace_25 : decode cX2_replace 25 = .ok (.invokevirtual 97, 3) := by decide +kernel
theorem dX2_replace_28 : decode cX2_replace 28 = .ok (.iconst 0, 1) := by decide +kernel
theorem dX2_replace_29 : decode cX2_replace 29 = .ok (.ireturn, 1) := by decide +kernel
theorem dX1_putIn_0 : decode cX1_putIn 0 = .ok (.aload_n 0, 1) := by decide +kernel
theorem dX1_putIn_1 : decode cX1_putIn 1 = .ok (.getfield 15, 3) := by decide +kernel
theorem dX1_putIn_4 : decode cX1_putIn 4 = .ok (.iload_n 1, 1) := by decide +kernel
theorem dX1_putIn_5 : decode cX1_putIn 5 = .ok (.iconst 1, 1) := by decide +kernel
theorem dX1_putIn_6 : decode cX1_putIn 6 = .ok (.bastore, 1) := by decide +kernel
theorem dX1_putIn_7 : decode cX1_putIn 7 = .ok (.return_, 1) := by decide +kernel
theorem dX2_alter_0 : decode cX2_alter 0 = .ok (.aload_n 0, 1) := by decide +kernel
theorem dX2_alter_1 : decode cX2_alter 1 = .ok (.getfield 23, 3) := by decide +kernel
theorem dX2_alter_4 : decode cX2_alter 4 = .ok (.iload_n 1, 1) := by decide +kernel
theorem dX2_alter_5 : decode cX2_alter 5 = .ok (.invokevirtual 100, 3) := by decide +kernel
theorem dX2_alter_8 : decode cX2_alter 8 = .ok (.ifCond .eq 10, 3) := by decide +kernel
theorem dX2_alter_11 : decode cX2_alter 11 = .ok (.iload_n 2, 1) := by decide +kernel
theorem dX2_alter_12 : decode cX2_alter 12 = .ok (.invokestatic 103, 3) := by decide +kernel
theorem dX2_alter_15 : decode cX2_alter 15 = .ok (.ifCond .ne 5, 3) := by decide +kernel
theorem dX2_alter_18 : decode cX2_alter 18 = .ok (.iconst (-1), 1) := by decide +kernel
theorem dX2_alter_19 : decode cX2_alter 19 = .ok (.ireturn, 1) := by decide +kernel
theorem dX2_alter_20 : decode cX2_alter 20 = .ok (.aload_n 0, 1) := by decide +kernel
theorem dX2_alter_21 : decode cX2_alter 21 = .ok (.getfield 23, 3) := by decide +kernel
theorem dX2_alter_24 : decode cX2_alter 24 = .ok (.iload_n 1, 1) := by decide +kernel
theorem dX2_alter_25 : decode cX2_alter 25 = .ok (.iload_n 2, 1) := by decide +kernel
theorem dX2_alter_26 : decode cX2_alter 26 = .ok (.invokevirtual 61, 3) := by decide +kernel
theorem dX2_alter_29 : decode cX2_alter 29 = .ok (.ifCond .ne 7, 3) := by decide +kernel
theorem dX2_alter_32 : decode cX2_alter 32 = .ok (.iload_n 3, 1) := by decide +kernel
theorem dX2_alter_33 : decode cX2_alter 33 = .ok (.ifCond .ne 5, 3) := by decide +kernel
theorem dX2_alter_36 : decode cX2_alter 36 = .ok (.iconst (-1), 1) := by decide +kernel
theorem dX2_alter_37 : decode cX2_alter 37 = .ok (.ireturn, 1) := by decide +kernel
theorem dX2_alter_38 : decode cX2_alter 38 = .ok (.aload_n 0, 1) := by decide +kernel
theorem dX2_alter_39 : decode cX2_alter 39 = .ok (.getfield 23, 3) := by decide +kernel
theorem dX2_alter_42 : decode cX2_alter 42 = .ok (.iload_n 1, 1) := by decide +kernel
theorem dX2_alter_43 : decode cX2_alter 43 = .ok (.iload_n 2, 1) := by decide +kernel
theorem dX2_alter_44 : decode cX2_alter 44 = .ok (.iload_n 3, 1) := by decide +kernel
theorem dX2_alter_45 : decode cX2_alter 45 = .ok (.invokevirtual 106, 3) := by decide +kernel
theorem dX2_alter_48 : decode cX2_alter 48 = .ok (.iconst 0, 1) := by decide +kernel
theorem dX2_alter_49 : decode cX2_alter 49 = .ok (.ireturn, 1) := by decide +kernel
theorem dX1_isStripe_0 : decode cX1_isStripe 0 = .ok (.iload_n 1, 1) := by decide +kernel
theorem dX1_isStripe_1 : decode cX1_isStripe 1 = .ok (.ifCond .lt 15, 3) := by decide +kernel
theorem dX1_isStripe_4 : decode cX1_isStripe 4 = .ok (.iload_n 1, 1) := by decide +kernel
theorem dX1_isStripe_5 : decode cX1_isStripe 5 = .ok (.aload_n 0, 1) := by decide +kernel
theorem dX1_isStripe_6 : decode cX1_isStripe 6 = .ok (.getfield 9, 3) := by decide +kernel
theorem dX1_isStripe_9 : decode cX1_isStripe 9 = .ok (.if_icmp .ge 7, 3) := by decide +kernel
theorem dX1_isStripe_12 : decode cX1_isStripe 12 = .ok (.iconst 1, 1) := by decide +kernel
theorem dX1_isStripe_13 : decode cX1_isStripe 13 = .ok (.goto 4, 3) := by decide +kernel
theorem dX1_isStripe_16 : decode cX1_isStripe 16 = .ok (.iconst 0, 1) := by decide +kernel
theorem dX1_isStripe_17 : decode cX1_isStripe 17 = .ok (.ireturn, 1) := by decide +kernel
theorem dX2_isColumn_0 : decode cX2_isColumn 0 = .ok (.iload_n 0, 1) := by decide +kernel
theorem dX2_isColumn_1 : decode cX2_isColumn 1 = .ok (.ifCond .lt 12, 3) := by decide +kernel
theorem dX2_isColumn_4 : decode cX2_isColumn 4 = .ok (.iload_n 0, 1) := by decide +kernel
theorem dX2_isColumn_5 : decode cX2_isColumn 5 = .ok (.iconst 4, 1) := by decide +kernel
theorem dX2_isColumn_6 : decode cX2_isColumn 6 = .ok (.if_icmp .ge 7, 3) := by decide +kernel
theorem dX2_isColumn_9 : decode cX2_isColumn 9 = .ok (.iconst 1, 1) := by decide +kernel
theorem dX2_isColumn_10 : decode cX2_isColumn 10 = .ok (.goto 4, 3) := by decide +kernel
theorem dX2_isColumn_13 : decode cX2_isColumn 13 = .ok (.iconst 0, 1) := by decide +kernel
theorem dX2_isColumn_14 : decode cX2_isColumn 14 = .ok (.ireturn, 1) := by decide +kernel
theorem dX1_flip_0 : decode cX1_flip 0 = .ok (.aload_n 0, 1) := by decide +kernel
theorem dX1_flip_1 : decode cX1_flip 1 = .ok (.getfield 23, 3) := by decide +kernel
theorem dX1_flip_4 : decode cX1_flip 4 = .ok (.iload_n 1, 1) := by decide +kernel
theorem dX1_flip_5 : decode cX1_flip 5 = .ok (.iload_n 2, 1) := by decide +kernel
theorem dX1_flip_6 : decode cX1_flip 6 = .ok (.invokestatic 32, 3) := by decide +kernel
theorem dX1_flip_9 : decode cX1_flip 9 = .ok (.dup2, 1) := by decide +kernel
theorem dX1_flip_10 : decode cX1_flip 10 = .ok (.iaload, 1) := by decide +kernel
theorem dX1_flip_11 : decode cX1_flip 11 = .ok (.iload_n 3, 1) := by decide +kernel
theorem dX1_flip_12 : decode cX1_flip 12 = .ok (.ixor, 1) := by decide +kernel
theorem dX1_flip_13 : decode cX1_flip 13 = .ok (.iastore, 1) := by decide +kernel
theorem dX1_flip_14 : decode cX1_flip 14 = .ok (.return_, 1) := by decide +kernel
theorem dX2_rebuild_0 : decode cX2_rebuild 0 = .ok (.iload_n 1, 1) := by decide +kernel
theorem dX2_rebuild_1 : decode cX2_rebuild 1 = .ok (.invokestatic 109, 3) := by decide +kernel
theorem dX2_rebuild_4 : decode cX2_rebuild 4 = .ok (.ifCond .eq 14, 3) := by decide +kernel
theorem dX2_rebuild_7 : decode cX2_rebuild 7 = .ok (.aload_n 0, 1) := by decide +kernel
theorem dX2_rebuild_8 : decode cX2_rebuild 8 = .ok (.getfield 23, 3) := by decide +kernel
theorem dX2_rebuild_11 : decode cX2_rebuild 11 = .ok (.iload_n 1, 1) := by decide +kernel
theorem dX2_rebuild_12 : decode cX2_rebuild 12 = .ok (.invokevirtual 112, 3) := by decide +kernel
theorem dX2_rebuild_15 : decode cX2_rebuild 15 = .ok (.goto 4, 3) := by decide +kernel
theorem dX2_rebuild_18 : decode cX2_rebuild 18 = .ok (.iconst (-1), 1) := by decide +kernel
theorem dX2_rebuild_19 : decode cX2_rebuild 19 = .ok (.ireturn, 1) := by decide +kernel
theorem dX2_isAmount_0 : decode cX2_isAmount 0 = .ok (.iload_n 0, 1) := by decide +kernel
theorem dX2_isAmount_1 : decode cX2_isAmount 1 = .ok (.iconst 1, 1) := by decide +kernel
theorem dX2_isAmount_2 : decode cX2_isAmount 2 = .ok (.if_icmp .lt 13, 3) := by decide +kernel
theorem dX2_isAmount_5 : decode cX2_isAmount 5 = .ok (.iload_n 0, 1) := by decide +kernel
theorem dX2_isAmount_6 : decode cX2_isAmount 6 = .ok (.bipush 21, 2) := by decide +kernel
theorem dX2_isAmount_8 : decode cX2_isAmount 8 = .ok (.if_icmp .gt 7, 3) := by decide +kernel
theorem dX2_isAmount_11 : decode cX2_isAmount 11 = .ok (.iconst 1, 1) := by decide +kernel
theorem dX2_isAmount_12 : decode cX2_isAmount 12 = .ok (.goto 4, 3) := by decide +kernel
theorem dX2_isAmount_15 : decode cX2_isAmount 15 = .ok (.iconst 0, 1) := by decide +kernel
theorem dX2_isAmount_16 : decode cX2_isAmount 16 = .ok (.ireturn, 1) := by decide +kernel
theorem dX1_workOut_0 : decode cX1_workOut 0 = .ok (.iconst 0, 1) := by decide +kernel
theorem dX1_workOut_1 : decode cX1_workOut 1 = .ok (.istore_n 2, 1) := by decide +kernel
theorem dX1_workOut_2 : decode cX1_workOut 2 = .ok (.iconst 0, 1) := by decide +kernel
theorem dX1_workOut_3 : decode cX1_workOut 3 = .ok (.istore_n 3, 1) := by decide +kernel
theorem dX1_workOut_4 : decode cX1_workOut 4 = .ok (.iload_n 3, 1) := by decide +kernel
theorem dX1_workOut_5 : decode cX1_workOut 5 = .ok (.aload_n 0, 1) := by decide +kernel
theorem dX1_workOut_6 : decode cX1_workOut 6 = .ok (.getfield 9, 3) := by decide +kernel
theorem dX1_workOut_9 : decode cX1_workOut 9 = .ok (.if_icmp .ge 25, 3) := by decide +kernel
theorem dX1_workOut_12 : decode cX1_workOut 12 = .ok (.iload_n 2, 1) := by decide +kernel
theorem dX1_workOut_13 : decode cX1_workOut 13 = .ok (.iload_n 1, 1) := by decide +kernel
theorem dX1_workOut_14 : decode cX1_workOut 14 = .ok (.if_icmp .ge 20, 3) := by decide +kernel
theorem dX1_workOut_17 : decode cX1_workOut 17 = .ok (.aload_n 0, 1) := by decide +kernel
theorem dX1_workOut_18 : decode cX1_workOut 18 = .ok (.iload_n 3, 1) := by decide +kernel
theorem dX1_workOut_19 : decode cX1_workOut 19 = .ok (.invokevirtual 64, 3) := by decide +kernel
theorem dX1_workOut_22 : decode cX1_workOut 22 = .ok (.ifCond .eq 6, 3) := by decide +kernel
theorem dX1_workOut_25 : decode cX1_workOut 25 = .ok (.iinc 2 1, 3) := by decide +kernel
theorem dX1_workOut_28 : decode cX1_workOut 28 = .ok (.iinc 3 1, 3) := by decide +kernel
theorem dX1_workOut_31 : decode cX1_workOut 31 = .ok (.goto (-27), 3) := by decide +kernel
theorem dX1_workOut_34 : decode cX1_workOut 34 = .ok (.iload_n 2, 1) := by decide +kernel
theorem dX1_workOut_35 : decode cX1_workOut 35 = .ok (.ireturn, 1) := by decide +kernel
theorem dX1_workOutIn_0 : decode cX1_workOutIn 0 = .ok (.aload_n 0, 1) := by decide +kernel
theorem dX1_workOutIn_1 : decode cX1_workOutIn 1 = .ok (.iload_n 1, 1) := by decide +kernel
theorem dX1_workOutIn_2 : decode cX1_workOutIn 2 = .ok (.invokevirtual 87, 3) := by decide +kernel
theorem dX1_workOutIn_5 : decode cX1_workOutIn 5 = .ok (.istore_n 2, 1) := by decide +kernel
theorem dX1_workOutIn_6 : decode cX1_workOutIn 6 = .ok (.iload_n 2, 1) := by decide +kernel
theorem dX1_workOutIn_7 : decode cX1_workOutIn 7 = .ok (.iconst 4, 1) := by decide +kernel
theorem dX1_workOutIn_8 : decode cX1_workOutIn 8 = .ok (.if_icmp .eq 11, 3) := by decide +kernel
theorem dX1_workOutIn_11 : decode cX1_workOutIn 11 = .ok (.aload_n 0, 1) := by decide +kernel
theorem dX1_workOutIn_12 : decode cX1_workOutIn 12 = .ok (.iload_n 1, 1) := by decide +kernel
theorem dX1_workOutIn_13 : decode cX1_workOutIn 13 = .ok (.invokevirtual 74, 3) := by decide +kernel
theorem dX1_workOutIn_16 : decode cX1_workOutIn 16 = .ok (.ifCond .eq 5, 3) := by decide +kernel
theorem dX1_workOutIn_19 : decode cX1_workOutIn 19 = .ok (.iconst 0, 1) := by decide +kernel
theorem dX1_workOutIn_20 : decode cX1_workOutIn 20 = .ok (.ireturn, 1) := by decide +kernel
theorem dX1_workOutIn_21 : decode cX1_workOutIn 21 = .ok (.aload_n 0, 1) := by decide +kernel
theorem dX1_workOutIn_22 : decode cX1_workOutIn 22 = .ok (.getfield 15, 3) := by decide +kernel
theorem dX1_workOutIn_25 : decode cX1_workOutIn 25 = .ok (.iload_n 1, 1) := by decide +kernel
theorem dX1_workOutIn_26 : decode cX1_workOutIn 26 = .ok (.iload_n 2, 1) := by decide +kernel
theorem dX1_workOutIn_27 : decode cX1_workOutIn 27 = .ok (.invokestatic 68, 3) := by decide +kernel
theorem dX1_workOutIn_30 : decode cX1_workOutIn 30 = .ok (.baload, 1) := by decide +kernel
theorem dX1_workOutIn_31 : decode cX1_workOutIn 31 = .ok (.ifCond .ne 34, 3) := by decide +kernel
theorem dX1_workOutIn_34 : decode cX1_workOutIn 34 = .ok (.aload_n 0, 1) := by decide +kernel
theorem dX1_workOutIn_35 : decode cX1_workOutIn 35 = .ok (.getfield 15, 3) := by decide +kernel
theorem dX1_workOutIn_38 : decode cX1_workOutIn 38 = .ok (.iload_n 1, 1) := by decide +kernel
theorem dX1_workOutIn_39 : decode cX1_workOutIn 39 = .ok (.invokestatic 81, 3) := by decide +kernel
theorem dX1_workOutIn_42 : decode cX1_workOutIn 42 = .ok (.baload, 1) := by decide +kernel
theorem dX1_workOutIn_43 : decode cX1_workOutIn 43 = .ok (.ifCond .eq 13, 3) := by decide +kernel
theorem dX1_workOutIn_46 : decode cX1_workOutIn 46 = .ok (.aload_n 0, 1) := by decide +kernel
theorem dX1_workOutIn_47 : decode cX1_workOutIn 47 = .ok (.getfield 29, 3) := by decide +kernel
theorem dX1_workOutIn_50 : decode cX1_workOutIn 50 = .ok (.iload_n 1, 1) := by decide +kernel
theorem dX1_workOutIn_51 : decode cX1_workOutIn 51 = .ok (.iaload, 1) := by decide +kernel
theorem dX1_workOutIn_52 : decode cX1_workOutIn 52 = .ok (.iconst 4, 1) := by decide +kernel
theorem dX1_workOutIn_53 : decode cX1_workOutIn 53 = .ok (.if_icmp .eq 5, 3) := by decide +kernel
theorem dX1_workOutIn_56 : decode cX1_workOutIn 56 = .ok (.iconst 0, 1) := by decide +kernel
theorem dX1_workOutIn_57 : decode cX1_workOutIn 57 = .ok (.ireturn, 1) := by decide +kernel
theorem dX1_workOutIn_58 : decode cX1_workOutIn 58 = .ok (.aload_n 0, 1) := by decide +kernel
theorem dX1_workOutIn_59 : decode cX1_workOutIn 59 = .ok (.getfield 29, 3) := by decide +kernel
theorem dX1_workOutIn_62 : decode cX1_workOutIn 62 = .ok (.iload_n 1, 1) := by decide +kernel
theorem dX1_workOutIn_63 : decode cX1_workOutIn 63 = .ok (.iload_n 2, 1) := by decide +kernel
theorem dX1_workOutIn_64 : decode cX1_workOutIn 64 = .ok (.iastore, 1) := by decide +kernel
theorem dX1_workOutIn_65 : decode cX1_workOutIn 65 = .ok (.iload_n 1, 1) := by decide +kernel
theorem dX1_workOutIn_66 : decode cX1_workOutIn 66 = .ok (.iload_n 2, 1) := by decide +kernel
theorem dX1_workOutIn_67 : decode cX1_workOutIn 67 = .ok (.invokestatic 32, 3) := by decide +kernel
theorem dX1_workOutIn_70 : decode cX1_workOutIn 70 = .ok (.istore_n 3, 1) := by decide +kernel
theorem dX1_workOutIn_71 : decode cX1_workOutIn 71 = .ok (.aload_n 0, 1) := by decide +kernel
theorem dX1_workOutIn_72 : decode cX1_workOutIn 72 = .ok (.getfield 23, 3) := by decide +kernel
theorem dX1_workOutIn_75 : decode cX1_workOutIn 75 = .ok (.iload_n 3, 1) := by decide +kernel
theorem dX1_workOutIn_76 : decode cX1_workOutIn 76 = .ok (.aload_n 0, 1) := by decide +kernel
theorem dX1_workOutIn_77 : decode cX1_workOutIn 77 = .ok (.iload_n 1, 1) := by decide +kernel
theorem dX1_workOutIn_78 : decode cX1_workOutIn 78 = .ok (.iload_n 2, 1) := by decide +kernel
theorem dX1_workOutIn_79 : decode cX1_workOutIn 79 = .ok (.invokevirtual 90, 3) := by decide +kernel
theorem dX1_workOutIn_82 : decode cX1_workOutIn 82 = .ok (.iastore, 1) := by decide +kernel
theorem dX1_workOutIn_83 : decode cX1_workOutIn 83 = .ok (.aload_n 0, 1) := by decide +kernel
theorem dX1_workOutIn_84 : decode cX1_workOutIn 84 = .ok (.getfield 26, 3) := by decide +kernel
theorem dX1_workOutIn_87 : decode cX1_workOutIn 87 = .ok (.iload_n 3, 1) := by decide +kernel
theorem dX1_workOutIn_88 : decode cX1_workOutIn 88 = .ok (.iconst 0, 1) := by decide +kernel
theorem dX1_workOutIn_89 : decode cX1_workOutIn 89 = .ok (.bastore, 1) := by decide +kernel
theorem dX1_workOutIn_90 : decode cX1_workOutIn 90 = .ok (.iconst 1, 1) := by decide +kernel
theorem dX1_workOutIn_91 : decode cX1_workOutIn 91 = .ok (.ireturn, 1) := by decide +kernel
theorem dX1_firstLost_0 : decode cX1_firstLost 0 = .ok (.iconst 0, 1) := by decide +kernel
theorem dX1_firstLost_1 : decode cX1_firstLost 1 = .ok (.istore_n 2, 1) := by decide +kernel
theorem dX1_firstLost_2 : decode cX1_firstLost 2 = .ok (.iload_n 2, 1) := by decide +kernel
theorem dX1_firstLost_3 : decode cX1_firstLost 3 = .ok (.iconst 4, 1) := by decide +kernel
theorem dX1_firstLost_4 : decode cX1_firstLost 4 = .ok (.if_icmp .ge 20, 3) := by decide +kernel
theorem dX1_firstLost_7 : decode cX1_firstLost 7 = .ok (.aload_n 0, 1) := by decide +kernel
theorem dX1_firstLost_8 : decode cX1_firstLost 8 = .ok (.iload_n 1, 1) := by decide +kernel
theorem dX1_firstLost_9 : decode cX1_firstLost 9 = .ok (.iload_n 2, 1) := by decide +kernel
theorem dX1_firstLost_10 : decode cX1_firstLost 10 = .ok (.invokevirtual 36, 3) := by decide +kernel
theorem dX1_firstLost_13 : decode cX1_firstLost 13 = .ok (.ifCond .eq 5, 3) := by decide +kernel
theorem dX1_firstLost_16 : decode cX1_firstLost 16 = .ok (.iload_n 2, 1) := by decide +kernel
theorem dX1_firstLost_17 : decode cX1_firstLost 17 = .ok (.ireturn, 1) := by decide +kernel
theorem dX1_firstLost_18 : decode cX1_firstLost 18 = .ok (.iinc 2 1, 3) := by decide +kernel
theorem dX1_firstLost_21 : decode cX1_firstLost 21 = .ok (.goto (-19), 3) := by decide +kernel
theorem dX1_firstLost_24 : decode cX1_firstLost 24 = .ok (.iconst 4, 1) := by decide +kernel
theorem dX1_firstLost_25 : decode cX1_firstLost 25 = .ok (.ireturn, 1) := by decide +kernel
theorem dX1_wordFromOthers_0 : decode cX1_wordFromOthers 0 = .ok (.iconst 0, 1) := by decide +kernel
theorem dX1_wordFromOthers_1 : decode cX1_wordFromOthers 1 = .ok (.istore_n 3, 1) := by decide +kernel
theorem dX1_wordFromOthers_2 : decode cX1_wordFromOthers 2 = .ok (.iconst 0, 1) := by decide +kernel
theorem dX1_wordFromOthers_3 : decode cX1_wordFromOthers 3 = .ok (.istore 4, 2) := by decide +kernel
theorem dX1_wordFromOthers_5 : decode cX1_wordFromOthers 5 = .ok (.iload 4, 2) := by decide +kernel
theorem dX1_wordFromOthers_7 : decode cX1_wordFromOthers 7 = .ok (.iconst 4, 1) := by decide +kernel
theorem dX1_wordFromOthers_8 : decode cX1_wordFromOthers 8 = .ok (.if_icmp .ge 29, 3) := by decide +kernel
theorem dX1_wordFromOthers_11 : decode cX1_wordFromOthers 11 = .ok (.iload 4, 2) := by decide +kernel
theorem dX1_wordFromOthers_13 : decode cX1_wordFromOthers 13 = .ok (.iload_n 2, 1) := by decide +kernel
theorem dX1_wordFromOthers_14 : decode cX1_wordFromOthers 14 = .ok (.if_icmp .eq 17, 3) := by decide +kernel
theorem dX1_wordFromOthers_17 : decode cX1_wordFromOthers 17 = .ok (.iload_n 3, 1) := by decide +kernel
theorem dX1_wordFromOthers_18 : decode cX1_wordFromOthers 18 = .ok (.aload_n 0, 1) := by decide +kernel
theorem dX1_wordFromOthers_19 : decode cX1_wordFromOthers 19 = .ok (.getfield 23, 3) := by decide +kernel
theorem dX1_wordFromOthers_22 : decode cX1_wordFromOthers 22 = .ok (.iload_n 1, 1) := by decide +kernel
theorem dX1_wordFromOthers_23 : decode cX1_wordFromOthers 23 = .ok (.iload 4, 2) := by decide +kernel
theorem dX1_wordFromOthers_25 : decode cX1_wordFromOthers 25 = .ok (.invokestatic 32, 3) := by decide +kernel
theorem dX1_wordFromOthers_28 : decode cX1_wordFromOthers 28 = .ok (.iaload, 1) := by decide +kernel
theorem dX1_wordFromOthers_29 : decode cX1_wordFromOthers 29 = .ok (.ixor, 1) := by decide +kernel
theorem dX1_wordFromOthers_30 : decode cX1_wordFromOthers 30 = .ok (.istore_n 3, 1) := by decide +kernel
theorem dX1_wordFromOthers_31 : decode cX1_wordFromOthers 31 = .ok (.iinc 4 1, 3) := by decide +kernel
theorem dX1_wordFromOthers_34 : decode cX1_wordFromOthers 34 = .ok (.goto (-29), 3) := by decide +kernel
theorem dX1_wordFromOthers_37 : decode cX1_wordFromOthers 37 = .ok (.iload_n 3, 1) := by decide +kernel
theorem dX1_wordFromOthers_38 : decode cX1_wordFromOthers 38 = .ok (.ireturn, 1) := by decide +kernel
theorem dX2_moveBack_0 : decode cX2_moveBack 0 = .ok (.iload_n 1, 1) := by decide +kernel
theorem dX2_moveBack_1 : decode cX2_moveBack 1 = .ok (.invokestatic 109, 3) := by decide +kernel
theorem dX2_moveBack_4 : decode cX2_moveBack 4 = .ok (.ifCond .eq 14, 3) := by decide +kernel
theorem dX2_moveBack_7 : decode cX2_moveBack 7 = .ok (.aload_n 0, 1) := by decide +kernel
theorem dX2_moveBack_8 : decode cX2_moveBack 8 = .ok (.getfield 23, 3) := by decide +kernel
theorem dX2_moveBack_11 : decode cX2_moveBack 11 = .ok (.iload_n 1, 1) := by decide +kernel
theorem dX2_moveBack_12 : decode cX2_moveBack 12 = .ok (.invokevirtual 115, 3) := by decide +kernel
theorem dX2_moveBack_15 : decode cX2_moveBack 15 = .ok (.goto 4, 3) := by decide +kernel
theorem dX2_moveBack_18 : decode cX2_moveBack 18 = .ok (.iconst (-1), 1) := by decide +kernel
theorem dX2_moveBack_19 : decode cX2_moveBack 19 = .ok (.ireturn, 1) := by decide +kernel
theorem dX1_bringHome_0 : decode cX1_bringHome 0 = .ok (.iconst 0, 1) := by decide +kernel
theorem dX1_bringHome_1 : decode cX1_bringHome 1 = .ok (.istore_n 2, 1) := by decide +kernel
theorem dX1_bringHome_2 : decode cX1_bringHome 2 = .ok (.iconst 0, 1) := by decide +kernel
theorem dX1_bringHome_3 : decode cX1_bringHome 3 = .ok (.istore_n 3, 1) := by decide +kernel
theorem dX1_bringHome_4 : decode cX1_bringHome 4 = .ok (.iload_n 3, 1) := by decide +kernel
theorem dX1_bringHome_5 : decode cX1_bringHome 5 = .ok (.aload_n 0, 1) := by decide +kernel
theorem dX1_bringHome_6 : decode cX1_bringHome 6 = .ok (.getfield 9, 3) := by decide +kernel
theorem dX1_bringHome_9 : decode cX1_bringHome 9 = .ok (.if_icmp .ge 52, 3) := by decide +kernel
theorem dX1_bringHome_12 : decode cX1_bringHome 12 = .ok (.iload_n 2, 1) := by decide +kernel
theorem dX1_bringHome_13 : decode cX1_bringHome 13 = .ok (.iload_n 1, 1) := by decide +kernel
theorem dX1_bringHome_14 : decode cX1_bringHome 14 = .ok (.if_icmp .ge 47, 3) := by decide +kernel
theorem dX1_bringHome_17 : decode cX1_bringHome 17 = .ok (.aload_n 0, 1) := by decide +kernel
theorem dX1_bringHome_18 : decode cX1_bringHome 18 = .ok (.getfield 29, 3) := by decide +kernel
theorem dX1_bringHome_21 : decode cX1_bringHome 21 = .ok (.iload_n 3, 1) := by decide +kernel
theorem dX1_bringHome_22 : decode cX1_bringHome 22 = .ok (.iaload, 1) := by decide +kernel
theorem dX1_bringHome_23 : decode cX1_bringHome 23 = .ok (.iconst 4, 1) := by decide +kernel
theorem dX1_bringHome_24 : decode cX1_bringHome 24 = .ok (.if_icmp .eq 31, 3) := by decide +kernel
theorem dX1_bringHome_27 : decode cX1_bringHome 27 = .ok (.aload_n 0, 1) := by decide +kernel
theorem dX1_bringHome_28 : decode cX1_bringHome 28 = .ok (.getfield 15, 3) := by decide +kernel
theorem dX1_bringHome_31 : decode cX1_bringHome 31 = .ok (.iload_n 3, 1) := by decide +kernel
theorem dX1_bringHome_32 : decode cX1_bringHome 32 = .ok (.aload_n 0, 1) := by decide +kernel
theorem dX1_bringHome_33 : decode cX1_bringHome 33 = .ok (.getfield 29, 3) := by decide +kernel
theorem dX1_bringHome_36 : decode cX1_bringHome 36 = .ok (.iload_n 3, 1) := by decide +kernel
theorem dX1_bringHome_37 : decode cX1_bringHome 37 = .ok (.iaload, 1) := by decide +kernel
theorem dX1_bringHome_38 : decode cX1_bringHome 38 = .ok (.invokestatic 68, 3) := by decide +kernel
theorem dX1_bringHome_41 : decode cX1_bringHome 41 = .ok (.baload, 1) := by decide +kernel
theorem dX1_bringHome_42 : decode cX1_bringHome 42 = .ok (.ifCond .eq 13, 3) := by decide +kernel
theorem dX1_bringHome_45 : decode cX1_bringHome 45 = .ok (.aload_n 0, 1) := by decide +kernel
theorem dX1_bringHome_46 : decode cX1_bringHome 46 = .ok (.getfield 29, 3) := by decide +kernel
theorem dX1_bringHome_49 : decode cX1_bringHome 49 = .ok (.iload_n 3, 1) := by decide +kernel
theorem dX1_bringHome_50 : decode cX1_bringHome 50 = .ok (.iconst 4, 1) := by decide +kernel
theorem dX1_bringHome_51 : decode cX1_bringHome 51 = .ok (.iastore, 1) := by decide +kernel
theorem dX1_bringHome_52 : decode cX1_bringHome 52 = .ok (.iinc 2 1, 3) := by decide +kernel
theorem dX1_bringHome_55 : decode cX1_bringHome 55 = .ok (.iinc 3 1, 3) := by decide +kernel
theorem dX1_bringHome_58 : decode cX1_bringHome 58 = .ok (.goto (-54), 3) := by decide +kernel
theorem dX1_bringHome_61 : decode cX1_bringHome 61 = .ok (.iload_n 2, 1) := by decide +kernel
theorem dX1_bringHome_62 : decode cX1_bringHome 62 = .ok (.ireturn, 1) := by decide +kernel
theorem dX2_scrub_0 : decode cX2_scrub 0 = .ok (.iload_n 1, 1) := by decide +kernel
theorem dX2_scrub_1 : decode cX2_scrub 1 = .ok (.invokestatic 109, 3) := by decide +kernel
theorem dX2_scrub_4 : decode cX2_scrub 4 = .ok (.ifCond .eq 14, 3) := by decide +kernel
theorem dX2_scrub_7 : decode cX2_scrub 7 = .ok (.aload_n 0, 1) := by decide +kernel
theorem dX2_scrub_8 : decode cX2_scrub 8 = .ok (.getfield 23, 3) := by decide +kernel
theorem dX2_scrub_11 : decode cX2_scrub 11 = .ok (.iload_n 1, 1) := by decide +kernel
theorem dX2_scrub_12 : decode cX2_scrub 12 = .ok (.invokevirtual 118, 3) := by decide +kernel
theorem dX2_scrub_15 : decode cX2_scrub 15 = .ok (.goto 4, 3) := by decide +kernel
theorem dX2_scrub_18 : decode cX2_scrub 18 = .ok (.iconst (-1), 1) := by decide +kernel
theorem dX2_scrub_19 : decode cX2_scrub 19 = .ok (.ireturn, 1) := by decide +kernel
theorem dX1_visit_0 : decode cX1_visit 0 = .ok (.iconst 0, 1) := by decide +kernel
theorem dX1_visit_1 : decode cX1_visit 1 = .ok (.istore_n 2, 1) := by decide +kernel
theorem dX1_visit_2 : decode cX1_visit 2 = .ok (.iconst 0, 1) := by decide +kernel
theorem dX1_visit_3 : decode cX1_visit 3 = .ok (.istore_n 3, 1) := by decide +kernel
theorem dX1_visit_4 : decode cX1_visit 4 = .ok (.iload_n 3, 1) := by decide +kernel
theorem dX1_visit_5 : decode cX1_visit 5 = .ok (.iload_n 1, 1) := by decide +kernel
theorem dX1_visit_6 : decode cX1_visit 6 = .ok (.if_icmp .ge 58, 3) := by decide +kernel
theorem dX1_visit_9 : decode cX1_visit 9 = .ok (.aload_n 0, 1) := by decide +kernel
theorem dX1_visit_10 : decode cX1_visit 10 = .ok (.aload_n 0, 1) := by decide +kernel
theorem dX1_visit_11 : decode cX1_visit 11 = .ok (.getfield 71, 3) := by decide +kernel
theorem dX1_visit_14 : decode cX1_visit 14 = .ok (.invokevirtual 74, 3) := by decide +kernel
theorem dX1_visit_17 : decode cX1_visit 17 = .ok (.ifCond .ne 14, 3) := by decide +kernel
theorem dX1_visit_20 : decode cX1_visit 20 = .ok (.iload_n 2, 1) := by decide +kernel
theorem dX1_visit_21 : decode cX1_visit 21 = .ok (.aload_n 0, 1) := by decide +kernel
theorem dX1_visit_22 : decode cX1_visit 22 = .ok (.aload_n 0, 1) := by decide +kernel
theorem dX1_visit_23 : decode cX1_visit 23 = .ok (.getfield 71, 3) := by decide +kernel
theorem dX1_visit_26 : decode cX1_visit 26 = .ok (.invokevirtual 77, 3) := by decide +kernel
theorem dX1_visit_29 : decode cX1_visit 29 = .ok (.iadd, 1) := by decide +kernel
theorem dX1_visit_30 : decode cX1_visit 30 = .ok (.istore_n 2, 1) := by decide +kernel
theorem dX1_visit_31 : decode cX1_visit 31 = .ok (.aload_n 0, 1) := by decide +kernel
theorem dX1_visit_32 : decode cX1_visit 32 = .ok (.aload_n 0, 1) := by decide +kernel
theorem dX1_visit_33 : decode cX1_visit 33 = .ok (.getfield 71, 3) := by decide +kernel
theorem dX1_visit_36 : decode cX1_visit 36 = .ok (.iconst 1, 1) := by decide +kernel
theorem dX1_visit_37 : decode cX1_visit 37 = .ok (.iadd, 1) := by decide +kernel
theorem dX1_visit_38 : decode cX1_visit 38 = .ok (.aload_n 0, 1) := by decide +kernel
theorem dX1_visit_39 : decode cX1_visit 39 = .ok (.getfield 9, 3) := by decide +kernel
theorem dX1_visit_42 : decode cX1_visit 42 = .ok (.if_icmp .ge 12, 3) := by decide +kernel
theorem dX1_visit_45 : decode cX1_visit 45 = .ok (.aload_n 0, 1) := by decide +kernel
theorem dX1_visit_46 : decode cX1_visit 46 = .ok (.getfield 71, 3) := by decide +kernel
theorem dX1_visit_49 : decode cX1_visit 49 = .ok (.iconst 1, 1) := by decide +kernel
theorem dX1_visit_50 : decode cX1_visit 50 = .ok (.iadd, 1) := by decide +kernel
theorem dX1_visit_51 : decode cX1_visit 51 = .ok (.goto 4, 3) := by decide +kernel
theorem dX1_visit_54 : decode cX1_visit 54 = .ok (.iconst 0, 1) := by decide +kernel
theorem dX1_visit_55 : decode cX1_visit 55 = .ok (.putfield 71, 3) := by decide +kernel
theorem dX1_visit_58 : decode cX1_visit 58 = .ok (.iinc 3 1, 3) := by decide +kernel
theorem dX1_visit_61 : decode cX1_visit 61 = .ok (.goto (-57), 3) := by decide +kernel
theorem dX1_visit_64 : decode cX1_visit 64 = .ok (.iload_n 2, 1) := by decide +kernel
theorem dX1_visit_65 : decode cX1_visit 65 = .ok (.ireturn, 1) := by decide +kernel
theorem dX2_file_0 : decode cX2_file 0 = .ok (.iload_n 1, 1) := by decide +kernel
theorem dX2_file_1 : decode cX2_file 1 = .ok (.invokestatic 34, 3) := by decide +kernel
theorem dX2_file_4 : decode cX2_file 4 = .ok (.ifCond .eq 13, 3) := by decide +kernel
theorem dX2_file_7 : decode cX2_file 7 = .ok (.iload_n 2, 1) := by decide +kernel
theorem dX2_file_8 : decode cX2_file 8 = .ok (.ifCond .lt 9, 3) := by decide +kernel
theorem dX2_file_11 : decode cX2_file 11 = .ok (.iload_n 2, 1) := by decide +kernel
theorem dX2_file_12 : decode cX2_file 12 = .ok (.bipush 7, 2) := by decide +kernel
theorem dX2_file_14 : decode cX2_file 14 = .ok (.if_icmp .le 5, 3) := by decide +kernel
theorem dX2_file_17 : decode cX2_file 17 = .ok (.iconst (-1), 1) := by decide +kernel
theorem dX2_file_18 : decode cX2_file 18 = .ok (.ireturn, 1) := by decide +kernel
theorem dX2_file_19 : decode cX2_file 19 = .ok (.iload_n 2, 1) := by decide +kernel
theorem dX2_file_20 : decode cX2_file 20 = .ok (.ifCond .ne 12, 3) := by decide +kernel
theorem dX2_file_23 : decode cX2_file 23 = .ok (.aload_n 0, 1) := by decide +kernel
theorem dX2_file_24 : decode cX2_file 24 = .ok (.getfield 30, 3) := by decide +kernel
theorem dX2_file_27 : decode cX2_file 27 = .ok (.iload_n 1, 1) := by decide +kernel
theorem dX2_file_28 : decode cX2_file 28 = .ok (.invokevirtual 121, 3) := by decide +kernel
theorem dX2_file_31 : decode cX2_file 31 = .ok (.ireturn, 1) := by decide +kernel
theorem dX2_file_32 : decode cX2_file 32 = .ok (.iload_n 2, 1) := by decide +kernel
theorem dX2_file_33 : decode cX2_file 33 = .ok (.iconst 1, 1) := by decide +kernel
theorem dX2_file_34 : decode cX2_file 34 = .ok (.if_icmp .ne 12, 3) := by decide +kernel
theorem dX2_file_37 : decode cX2_file 37 = .ok (.aload_n 0, 1) := by decide +kernel
theorem dX2_file_38 : decode cX2_file 38 = .ok (.getfield 30, 3) := by decide +kernel
theorem dX2_file_41 : decode cX2_file 41 = .ok (.iload_n 1, 1) := by decide +kernel
theorem dX2_file_42 : decode cX2_file 42 = .ok (.invokevirtual 45, 3) := by decide +kernel
theorem dX2_file_45 : decode cX2_file 45 = .ok (.ireturn, 1) := by decide +kernel
theorem dX2_file_46 : decode cX2_file 46 = .ok (.iload_n 2, 1) := by decide +kernel
theorem dX2_file_47 : decode cX2_file 47 = .ok (.iconst 2, 1) := by decide +kernel
theorem dX2_file_48 : decode cX2_file 48 = .ok (.idiv, 1) := by decide +kernel
theorem dX2_file_49 : decode cX2_file 49 = .ok (.iconst 1, 1) := by decide +kernel
theorem dX2_file_50 : decode cX2_file 50 = .ok (.isub, 1) := by decide +kernel
theorem dX2_file_51 : decode cX2_file 51 = .ok (.istore_n 3, 1) := by decide +kernel
theorem dX2_file_52 : decode cX2_file 52 = .ok (.iload_n 3, 1) := by decide +kernel
theorem dX2_file_53 : decode cX2_file 53 = .ok (.aload_n 0, 1) := by decide +kernel
theorem dX2_file_54 : decode cX2_file 54 = .ok (.getfield 30, 3) := by decide +kernel
theorem dX2_file_57 : decode cX2_file 57 = .ok (.iload_n 1, 1) := by decide +kernel
theorem dX2_file_58 : decode cX2_file 58 = .ok (.invokevirtual 45, 3) := by decide +kernel
theorem dX2_file_61 : decode cX2_file 61 = .ok (.if_icmp .lt 5, 3) := by decide +kernel
theorem dX2_file_64 : decode cX2_file 64 = .ok (.iconst (-1), 1) := by decide +kernel
theorem dX2_file_65 : decode cX2_file 65 = .ok (.ireturn, 1) := by decide +kernel
theorem dX2_file_66 : decode cX2_file 66 = .ok (.iload_n 2, 1) := by decide +kernel
theorem dX2_file_67 : decode cX2_file 67 = .ok (.iconst 2, 1) := by decide +kernel
theorem dX2_file_68 : decode cX2_file 68 = .ok (.irem, 1) := by decide +kernel
theorem dX2_file_69 : decode cX2_file 69 = .ok (.ifCond .ne 15, 3) := by decide +kernel
theorem dX2_file_72 : decode cX2_file 72 = .ok (.aload_n 0, 1) := by decide +kernel
theorem dX2_file_73 : decode cX2_file 73 = .ok (.getfield 30, 3) := by decide +kernel
theorem dX2_file_76 : decode cX2_file 76 = .ok (.iload_n 1, 1) := by decide +kernel
theorem dX2_file_77 : decode cX2_file 77 = .ok (.iload_n 3, 1) := by decide +kernel
theorem dX2_file_78 : decode cX2_file 78 = .ok (.invokevirtual 124, 3) := by decide +kernel
theorem dX2_file_81 : decode cX2_file 81 = .ok (.goto 12, 3) := by decide +kernel
theorem dX2_file_84 : decode cX2_file 84 = .ok (.aload_n 0, 1) := by decide +kernel
theorem dX2_file_85 : decode cX2_file 85 = .ok (.getfield 30, 3) := by decide +kernel
theorem dX2_file_88 : decode cX2_file 88 = .ok (.iload_n 1, 1) := by decide +kernel
theorem dX2_file_89 : decode cX2_file 89 = .ok (.iload_n 3, 1) := by decide +kernel
theorem dX2_file_90 : decode cX2_file 90 = .ok (.invokevirtual 127, 3) := by decide +kernel
theorem dX2_file_93 : decode cX2_file 93 = .ok (.ireturn, 1) := by decide +kernel
theorem dX2_stripe_0 : decode cX2_stripe 0 = .ok (.aload_n 0, 1) := by decide +kernel
theorem dX2_stripe_1 : decode cX2_stripe 1 = .ok (.getfield 23, 3) := by decide +kernel
theorem dX2_stripe_4 : decode cX2_stripe 4 = .ok (.iload_n 1, 1) := by decide +kernel
theorem dX2_stripe_5 : decode cX2_stripe 5 = .ok (.invokevirtual 100, 3) := by decide +kernel
theorem dX2_stripe_8 : decode cX2_stripe 8 = .ok (.ifCond .ne 5, 3) := by decide +kernel
theorem dX2_stripe_11 : decode cX2_stripe 11 = .ok (.iconst (-1), 1) := by decide +kernel
theorem dX2_stripe_12 : decode cX2_stripe 12 = .ok (.ireturn, 1) := by decide +kernel
theorem dX2_stripe_13 : decode cX2_stripe 13 = .ok (.iload_n 2, 1) := by decide +kernel
theorem dX2_stripe_14 : decode cX2_stripe 14 = .ok (.invokestatic 103, 3) := by decide +kernel
theorem dX2_stripe_17 : decode cX2_stripe 17 = .ok (.ifCond .eq 13, 3) := by decide +kernel
theorem dX2_stripe_20 : decode cX2_stripe 20 = .ok (.aload_n 0, 1) := by decide +kernel
theorem dX2_stripe_21 : decode cX2_stripe 21 = .ok (.getfield 23, 3) := by decide +kernel
theorem dX2_stripe_24 : decode cX2_stripe 24 = .ok (.iload_n 1, 1) := by decide +kernel
theorem dX2_stripe_25 : decode cX2_stripe 25 = .ok (.iload_n 2, 1) := by decide +kernel
theorem dX2_stripe_26 : decode cX2_stripe 26 = .ok (.invokevirtual 130, 3) := by decide +kernel
theorem dX2_stripe_29 : decode cX2_stripe 29 = .ok (.ireturn, 1) := by decide +kernel
theorem dX2_stripe_30 : decode cX2_stripe 30 = .ok (.iload_n 2, 1) := by decide +kernel
theorem dX2_stripe_31 : decode cX2_stripe 31 = .ok (.lookupswitch 51 #[(4, 25), (5, 34)], 25) := by decide +kernel
theorem dX2_stripe_56 : decode cX2_stripe 56 = .ok (.aload_n 0, 1) := by decide +kernel
theorem dX2_stripe_57 : decode cX2_stripe 57 = .ok (.getfield 23, 3) := by decide +kernel
theorem dX2_stripe_60 : decode cX2_stripe 60 = .ok (.iload_n 1, 1) := by decide +kernel
theorem dX2_stripe_61 : decode cX2_stripe 61 = .ok (.invokevirtual 133, 3) := by decide +kernel
theorem dX2_stripe_64 : decode cX2_stripe 64 = .ok (.ireturn, 1) := by decide +kernel
theorem dX2_stripe_65 : decode cX2_stripe 65 = .ok (.aload_n 0, 1) := by decide +kernel
theorem dX2_stripe_66 : decode cX2_stripe 66 = .ok (.getfield 23, 3) := by decide +kernel
theorem dX2_stripe_69 : decode cX2_stripe 69 = .ok (.iload_n 1, 1) := by decide +kernel
theorem dX2_stripe_70 : decode cX2_stripe 70 = .ok (.invokevirtual 55, 3) := by decide +kernel
theorem dX2_stripe_73 : decode cX2_stripe 73 = .ok (.ifCond .eq 7, 3) := by decide +kernel
theorem dX2_stripe_76 : decode cX2_stripe 76 = .ok (.iconst 1, 1) := by decide +kernel
theorem dX2_stripe_77 : decode cX2_stripe 77 = .ok (.goto 4, 3) := by decide +kernel
theorem dX2_stripe_80 : decode cX2_stripe 80 = .ok (.iconst 0, 1) := by decide +kernel
theorem dX2_stripe_81 : decode cX2_stripe 81 = .ok (.ireturn, 1) := by decide +kernel
theorem dX2_stripe_82 : decode cX2_stripe 82 = .ok (.iconst (-1), 1) := by decide +kernel
theorem dX2_stripe_83 : decode cX2_stripe 83 = .ok (.ireturn, 1) := by decide +kernel
theorem dX1_condition_0 : decode cX1_condition 0 = .ok (.aload_n 0, 1) := by decide +kernel
theorem dX1_condition_1 : decode cX1_condition 1 = .ok (.iload_n 1, 1) := by decide +kernel
theorem dX1_condition_2 : decode cX1_condition 2 = .ok (.iload_n 2, 1) := by decide +kernel
theorem dX1_condition_3 : decode cX1_condition 3 = .ok (.invokevirtual 36, 3) := by decide +kernel
theorem dX1_condition_6 : decode cX1_condition 6 = .ok (.ifCond .eq 5, 3) := by decide +kernel
theorem dX1_condition_9 : decode cX1_condition 9 = .ok (.iconst 2, 1) := by decide +kernel
theorem dX1_condition_10 : decode cX1_condition 10 = .ok (.ireturn, 1) := by decide +kernel
theorem dX1_condition_11 : decode cX1_condition 11 = .ok (.aload_n 0, 1) := by decide +kernel
theorem dX1_condition_12 : decode cX1_condition 12 = .ok (.iload_n 1, 1) := by decide +kernel
theorem dX1_condition_13 : decode cX1_condition 13 = .ok (.iload_n 2, 1) := by decide +kernel
theorem dX1_condition_14 : decode cX1_condition 14 = .ok (.invokevirtual 40, 3) := by decide +kernel
theorem dX1_condition_17 : decode cX1_condition 17 = .ok (.ifCond .eq 7, 3) := by decide +kernel
theorem dX1_condition_20 : decode cX1_condition 20 = .ok (.iconst 1, 1) := by decide +kernel
theorem dX1_condition_21 : decode cX1_condition 21 = .ok (.goto 4, 3) := by decide +kernel
theorem dX1_condition_24 : decode cX1_condition 24 = .ok (.iconst 0, 1) := by decide +kernel
theorem dX1_condition_25 : decode cX1_condition 25 = .ok (.ireturn, 1) := by decide +kernel
theorem dX1_movedColumn_0 : decode cX1_movedColumn 0 = .ok (.aload_n 0, 1) := by decide +kernel
theorem dX1_movedColumn_1 : decode cX1_movedColumn 1 = .ok (.getfield 29, 3) := by decide +kernel
theorem dX1_movedColumn_4 : decode cX1_movedColumn 4 = .ok (.iload_n 1, 1) := by decide +kernel
theorem dX1_movedColumn_5 : decode cX1_movedColumn 5 = .ok (.iaload, 1) := by decide +kernel
theorem dX1_movedColumn_6 : decode cX1_movedColumn 6 = .ok (.ireturn, 1) := by decide +kernel
theorem dX2_disk_0 : decode cX2_disk 0 = .ok (.iload_n 1, 1) := by decide +kernel
theorem dX2_disk_1 : decode cX2_disk 1 = .ok (.invokestatic 88, 3) := by decide +kernel
theorem dX2_disk_4 : decode cX2_disk 4 = .ok (.ifCond .ne 5, 3) := by decide +kernel
theorem dX2_disk_7 : decode cX2_disk 7 = .ok (.iconst (-1), 1) := by decide +kernel
theorem dX2_disk_8 : decode cX2_disk 8 = .ok (.ireturn, 1) := by decide +kernel
theorem dX2_disk_9 : decode cX2_disk 9 = .ok (.iload_n 2, 1) := by decide +kernel
theorem dX2_disk_10 : decode cX2_disk 10 = .ok (.tableswitch 61 0 2 #[26, 43, 52], 26) := by decide +kernel
theorem dX2_disk_36 : decode cX2_disk 36 = .ok (.aload_n 0, 1) := by decide +kernel
theorem dX2_disk_37 : decode cX2_disk 37 = .ok (.getfield 23, 3) := by decide +kernel
theorem dX2_disk_40 : decode cX2_disk 40 = .ok (.iload_n 1, 1) := by decide +kernel
theorem dX2_disk_41 : decode cX2_disk 41 = .ok (.invokevirtual 91, 3) := by decide +kernel
theorem dX2_disk_44 : decode cX2_disk 44 = .ok (.ifCond .eq 7, 3) := by decide +kernel
theorem dX2_disk_47 : decode cX2_disk 47 = .ok (.iconst 1, 1) := by decide +kernel
theorem dX2_disk_48 : decode cX2_disk 48 = .ok (.goto 4, 3) := by decide +kernel
theorem dX2_disk_51 : decode cX2_disk 51 = .ok (.iconst 0, 1) := by decide +kernel
theorem dX2_disk_52 : decode cX2_disk 52 = .ok (.ireturn, 1) := by decide +kernel
theorem dX2_disk_53 : decode cX2_disk 53 = .ok (.aload_n 0, 1) := by decide +kernel
theorem dX2_disk_54 : decode cX2_disk 54 = .ok (.getfield 23, 3) := by decide +kernel
theorem dX2_disk_57 : decode cX2_disk 57 = .ok (.iload_n 1, 1) := by decide +kernel
theorem dX2_disk_58 : decode cX2_disk 58 = .ok (.invokevirtual 136, 3) := by decide +kernel
theorem dX2_disk_61 : decode cX2_disk 61 = .ok (.ireturn, 1) := by decide +kernel
theorem dX2_disk_62 : decode cX2_disk 62 = .ok (.aload_n 0, 1) := by decide +kernel
theorem dX2_disk_63 : decode cX2_disk 63 = .ok (.getfield 23, 3) := by decide +kernel
theorem dX2_disk_66 : decode cX2_disk 66 = .ok (.iload_n 1, 1) := by decide +kernel
theorem dX2_disk_67 : decode cX2_disk 67 = .ok (.invokevirtual 139, 3) := by decide +kernel
theorem dX2_disk_70 : decode cX2_disk 70 = .ok (.ireturn, 1) := by decide +kernel
theorem dX2_disk_71 : decode cX2_disk 71 = .ok (.iconst (-1), 1) := by decide +kernel
theorem dX2_disk_72 : decode cX2_disk 72 = .ok (.ireturn, 1) := by decide +kernel
theorem dX1_cellsOn_0 : decode cX1_cellsOn 0 = .ok (.iconst 0, 1) := by decide +kernel
theorem dX1_cellsOn_1 : decode cX1_cellsOn 1 = .ok (.istore_n 2, 1) := by decide +kernel
theorem dX1_cellsOn_2 : decode cX1_cellsOn 2 = .ok (.iconst 0, 1) := by decide +kernel
theorem dX1_cellsOn_3 : decode cX1_cellsOn 3 = .ok (.istore_n 3, 1) := by decide +kernel
theorem dX1_cellsOn_4 : decode cX1_cellsOn 4 = .ok (.iload_n 3, 1) := by decide +kernel
theorem dX1_cellsOn_5 : decode cX1_cellsOn 5 = .ok (.aload_n 0, 1) := by decide +kernel
theorem dX1_cellsOn_6 : decode cX1_cellsOn 6 = .ok (.getfield 9, 3) := by decide +kernel
theorem dX1_cellsOn_9 : decode cX1_cellsOn 9 = .ok (.if_icmp .ge 38, 3) := by decide +kernel
theorem dX1_cellsOn_12 : decode cX1_cellsOn 12 = .ok (.iconst 0, 1) := by decide +kernel
theorem dX1_cellsOn_13 : decode cX1_cellsOn 13 = .ok (.istore 4, 2) := by decide +kernel
theorem dX1_cellsOn_15 : decode cX1_cellsOn 15 = .ok (.iload 4, 2) := by decide +kernel
theorem dX1_cellsOn_17 : decode cX1_cellsOn 17 = .ok (.iconst 4, 1) := by decide +kernel
theorem dX1_cellsOn_18 : decode cX1_cellsOn 18 = .ok (.if_icmp .ge 23, 3) := by decide +kernel
theorem dX1_cellsOn_21 : decode cX1_cellsOn 21 = .ok (.aload_n 0, 1) := by decide +kernel
theorem dX1_cellsOn_22 : decode cX1_cellsOn 22 = .ok (.iload_n 3, 1) := by decide +kernel
theorem dX1_cellsOn_23 : decode cX1_cellsOn 23 = .ok (.iload 4, 2) := by decide +kernel
theorem dX1_cellsOn_25 : decode cX1_cellsOn 25 = .ok (.iload_n 1, 1) := by decide +kernel
theorem dX1_cellsOn_26 : decode cX1_cellsOn 26 = .ok (.invokevirtual 56, 3) := by decide +kernel
theorem dX1_cellsOn_29 : decode cX1_cellsOn 29 = .ok (.ifCond .eq 6, 3) := by decide +kernel
theorem dX1_cellsOn_32 : decode cX1_cellsOn 32 = .ok (.iinc 2 1, 3) := by decide +kernel
theorem dX1_cellsOn_35 : decode cX1_cellsOn 35 = .ok (.iinc 4 1, 3) := by decide +kernel
theorem dX1_cellsOn_38 : decode cX1_cellsOn 38 = .ok (.goto (-23), 3) := by decide +kernel
theorem dX1_cellsOn_41 : decode cX1_cellsOn 41 = .ok (.iinc 3 1, 3) := by decide +kernel
theorem dX1_cellsOn_44 : decode cX1_cellsOn 44 = .ok (.goto (-40), 3) := by decide +kernel
theorem dX1_cellsOn_47 : decode cX1_cellsOn 47 = .ok (.iload_n 2, 1) := by decide +kernel
theorem dX1_cellsOn_48 : decode cX1_cellsOn 48 = .ok (.ireturn, 1) := by decide +kernel
theorem dX1_movedCellsOn_0 : decode cX1_movedCellsOn 0 = .ok (.iconst 0, 1) := by decide +kernel
theorem dX1_movedCellsOn_1 : decode cX1_movedCellsOn 1 = .ok (.istore_n 2, 1) := by decide +kernel
theorem dX1_movedCellsOn_2 : decode cX1_movedCellsOn 2 = .ok (.iconst 0, 1) := by decide +kernel
theorem dX1_movedCellsOn_3 : decode cX1_movedCellsOn 3 = .ok (.istore_n 3, 1) := by decide +kernel
theorem dX1_movedCellsOn_4 : decode cX1_movedCellsOn 4 = .ok (.iload_n 3, 1) := by decide +kernel
theorem dX1_movedCellsOn_5 : decode cX1_movedCellsOn 5 = .ok (.aload_n 0, 1) := by decide +kernel
theorem dX1_movedCellsOn_6 : decode cX1_movedCellsOn 6 = .ok (.getfield 9, 3) := by decide +kernel
theorem dX1_movedCellsOn_9 : decode cX1_movedCellsOn 9 = .ok (.if_icmp .ge 30, 3) := by decide +kernel
theorem dX1_movedCellsOn_12 : decode cX1_movedCellsOn 12 = .ok (.aload_n 0, 1) := by decide +kernel
theorem dX1_movedCellsOn_13 : decode cX1_movedCellsOn 13 = .ok (.getfield 29, 3) := by decide +kernel
theorem dX1_movedCellsOn_16 : decode cX1_movedCellsOn 16 = .ok (.iload_n 3, 1) := by decide +kernel
theorem dX1_movedCellsOn_17 : decode cX1_movedCellsOn 17 = .ok (.iaload, 1) := by decide +kernel
theorem dX1_movedCellsOn_18 : decode cX1_movedCellsOn 18 = .ok (.iconst 4, 1) := by decide +kernel
theorem dX1_movedCellsOn_19 : decode cX1_movedCellsOn 19 = .ok (.if_icmp .eq 14, 3) := by decide +kernel
theorem dX1_movedCellsOn_22 : decode cX1_movedCellsOn 22 = .ok (.iload_n 3, 1) := by decide +kernel
theorem dX1_movedCellsOn_23 : decode cX1_movedCellsOn 23 = .ok (.invokestatic 81, 3) := by decide +kernel
theorem dX1_movedCellsOn_26 : decode cX1_movedCellsOn 26 = .ok (.iload_n 1, 1) := by decide +kernel
theorem dX1_movedCellsOn_27 : decode cX1_movedCellsOn 27 = .ok (.if_icmp .ne 6, 3) := by decide +kernel
theorem dX1_movedCellsOn_30 : decode cX1_movedCellsOn 30 = .ok (.iinc 2 1, 3) := by decide +kernel
theorem dX1_movedCellsOn_33 : decode cX1_movedCellsOn 33 = .ok (.iinc 3 1, 3) := by decide +kernel
theorem dX1_movedCellsOn_36 : decode cX1_movedCellsOn 36 = .ok (.goto (-32), 3) := by decide +kernel
theorem dX1_movedCellsOn_39 : decode cX1_movedCellsOn 39 = .ok (.iload_n 2, 1) := by decide +kernel
theorem dX1_movedCellsOn_40 : decode cX1_movedCellsOn 40 = .ok (.ireturn, 1) := by decide +kernel
theorem dX2_count_0 : decode cX2_count 0 = .ok (.iload_n 1, 1) := by decide +kernel
theorem dX2_count_1 : decode cX2_count 1 = .ok (.tableswitch 99 0 6 #[43, 51, 59, 67, 75, 83, 91], 43) := by decide +kernel
theorem dX2_count_44 : decode cX2_count 44 = .ok (.aload_n 0, 1) := by decide +kernel
theorem dX2_count_45 : decode cX2_count 45 = .ok (.getfield 30, 3) := by decide +kernel
theorem dX2_count_48 : decode cX2_count 48 = .ok (.invokevirtual 142, 3) := by decide +kernel
theorem dX2_count_51 : decode cX2_count 51 = .ok (.ireturn, 1) := by decide +kernel
theorem dX2_count_52 : decode cX2_count 52 = .ok (.aload_n 0, 1) := by decide +kernel
theorem dX2_count_53 : decode cX2_count 53 = .ok (.getfield 30, 3) := by decide +kernel
theorem dX2_count_56 : decode cX2_count 56 = .ok (.invokevirtual 146, 3) := by decide +kernel
theorem dX2_count_59 : decode cX2_count 59 = .ok (.ireturn, 1) := by decide +kernel
theorem dX2_count_60 : decode cX2_count 60 = .ok (.aload_n 0, 1) := by decide +kernel
theorem dX2_count_61 : decode cX2_count 61 = .ok (.getfield 23, 3) := by decide +kernel
theorem dX2_count_64 : decode cX2_count 64 = .ok (.invokevirtual 149, 3) := by decide +kernel
theorem dX2_count_67 : decode cX2_count 67 = .ok (.ireturn, 1) := by decide +kernel
theorem dX2_count_68 : decode cX2_count 68 = .ok (.aload_n 0, 1) := by decide +kernel
theorem dX2_count_69 : decode cX2_count 69 = .ok (.getfield 23, 3) := by decide +kernel
theorem dX2_count_72 : decode cX2_count 72 = .ok (.invokevirtual 152, 3) := by decide +kernel
theorem dX2_count_75 : decode cX2_count 75 = .ok (.ireturn, 1) := by decide +kernel
theorem dX2_count_76 : decode cX2_count 76 = .ok (.aload_n 0, 1) := by decide +kernel
theorem dX2_count_77 : decode cX2_count 77 = .ok (.getfield 23, 3) := by decide +kernel
theorem dX2_count_80 : decode cX2_count 80 = .ok (.invokevirtual 155, 3) := by decide +kernel
theorem dX2_count_83 : decode cX2_count 83 = .ok (.ireturn, 1) := by decide +kernel
theorem dX2_count_84 : decode cX2_count 84 = .ok (.aload_n 0, 1) := by decide +kernel
theorem dX2_count_85 : decode cX2_count 85 = .ok (.getfield 23, 3) := by decide +kernel
theorem dX2_count_88 : decode cX2_count 88 = .ok (.invokevirtual 158, 3) := by decide +kernel
theorem dX2_count_91 : decode cX2_count 91 = .ok (.ireturn, 1) := by decide +kernel
theorem dX2_count_92 : decode cX2_count 92 = .ok (.aload_n 0, 1) := by decide +kernel
theorem dX2_count_93 : decode cX2_count 93 = .ok (.getfield 30, 3) := by decide +kernel
theorem dX2_count_96 : decode cX2_count 96 = .ok (.invokevirtual 161, 3) := by decide +kernel
theorem dX2_count_99 : decode cX2_count 99 = .ok (.ireturn, 1) := by decide +kernel
theorem dX2_count_100 : decode cX2_count 100 = .ok (.iconst (-1), 1) := by decide +kernel
theorem dX2_count_101 : decode cX2_count 101 = .ok (.ireturn, 1) := by decide +kernel
theorem dX0_freeBlocks_0 : decode cX0_freeBlocks 0 = .ok (.iconst 0, 1) := by decide +kernel
theorem dX0_freeBlocks_1 : decode cX0_freeBlocks 1 = .ok (.istore_n 1, 1) := by decide +kernel
theorem dX0_freeBlocks_2 : decode cX0_freeBlocks 2 = .ok (.iconst 0, 1) := by decide +kernel
theorem dX0_freeBlocks_3 : decode cX0_freeBlocks 3 = .ok (.istore_n 2, 1) := by decide +kernel
theorem dX0_freeBlocks_4 : decode cX0_freeBlocks 4 = .ok (.iload_n 2, 1) := by decide +kernel
theorem dX0_freeBlocks_5 : decode cX0_freeBlocks 5 = .ok (.aload_n 0, 1) := by decide +kernel
theorem dX0_freeBlocks_6 : decode cX0_freeBlocks 6 = .ok (.getfield 9, 3) := by decide +kernel
theorem dX0_freeBlocks_9 : decode cX0_freeBlocks 9 = .ok (.arraylength, 1) := by decide +kernel
theorem dX0_freeBlocks_10 : decode cX0_freeBlocks 10 = .ok (.if_icmp .ge 21, 3) := by decide +kernel
theorem dX0_freeBlocks_13 : decode cX0_freeBlocks 13 = .ok (.aload_n 0, 1) := by decide +kernel
theorem dX0_freeBlocks_14 : decode cX0_freeBlocks 14 = .ok (.getfield 9, 3) := by decide +kernel
theorem dX0_freeBlocks_17 : decode cX0_freeBlocks 17 = .ok (.iload_n 2, 1) := by decide +kernel
theorem dX0_freeBlocks_18 : decode cX0_freeBlocks 18 = .ok (.baload, 1) := by decide +kernel
theorem dX0_freeBlocks_19 : decode cX0_freeBlocks 19 = .ok (.ifCond .ne 6, 3) := by decide +kernel
theorem dX0_freeBlocks_22 : decode cX0_freeBlocks 22 = .ok (.iinc 1 1, 3) := by decide +kernel
theorem dX0_freeBlocks_25 : decode cX0_freeBlocks 25 = .ok (.iinc 2 1, 3) := by decide +kernel
theorem dX0_freeBlocks_28 : decode cX0_freeBlocks 28 = .ok (.goto (-24), 3) := by decide +kernel
theorem dX0_freeBlocks_31 : decode cX0_freeBlocks 31 = .ok (.iload_n 1, 1) := by decide +kernel
theorem dX0_freeBlocks_32 : decode cX0_freeBlocks 32 = .ok (.ireturn, 1) := by decide +kernel
theorem dX0_longestRunLength_0 : decode cX0_longestRunLength 0 = .ok (.aload_n 0, 1) := by decide +kernel
theorem dX0_longestRunLength_1 : decode cX0_longestRunLength 1 = .ok (.invokevirtual 59, 3) := by decide +kernel
theorem dX0_longestRunLength_4 : decode cX0_longestRunLength 4 = .ok (.istore_n 1, 1) := by decide +kernel
theorem dX0_longestRunLength_5 : decode cX0_longestRunLength 5 = .ok (.iload_n 1, 1) := by decide +kernel
theorem dX0_longestRunLength_6 : decode cX0_longestRunLength 6 = .ok (.iconst (-1), 1) := by decide +kernel
theorem dX0_longestRunLength_7 : decode cX0_longestRunLength 7 = .ok (.if_icmp .ne 7, 3) := by decide +kernel
theorem dX0_longestRunLength_10 : decode cX0_longestRunLength 10 = .ok (.iconst 0, 1) := by decide +kernel
theorem dX0_longestRunLength_11 : decode cX0_longestRunLength 11 = .ok (.goto 8, 3) := by decide +kernel
theorem dX0_longestRunLength_14 : decode cX0_longestRunLength 14 = .ok (.aload_n 0, 1) := by decide +kernel
theorem dX0_longestRunLength_15 : decode cX0_longestRunLength 15 = .ok (.iload_n 1, 1) := by decide +kernel
theorem dX0_longestRunLength_16 : decode cX0_longestRunLength 16 = .ok (.invokevirtual 63, 3) := by decide +kernel
theorem dX0_longestRunLength_19 : decode cX0_longestRunLength 19 = .ok (.ireturn, 1) := by decide +kernel
theorem dX1_lostColumns_0 : decode cX1_lostColumns 0 = .ok (.iconst 0, 1) := by decide +kernel
theorem dX1_lostColumns_1 : decode cX1_lostColumns 1 = .ok (.istore_n 1, 1) := by decide +kernel
theorem dX1_lostColumns_2 : decode cX1_lostColumns 2 = .ok (.iconst 0, 1) := by decide +kernel
theorem dX1_lostColumns_3 : decode cX1_lostColumns 3 = .ok (.istore_n 2, 1) := by decide +kernel
theorem dX1_lostColumns_4 : decode cX1_lostColumns 4 = .ok (.iload_n 2, 1) := by decide +kernel
theorem dX1_lostColumns_5 : decode cX1_lostColumns 5 = .ok (.aload_n 0, 1) := by decide +kernel
theorem dX1_lostColumns_6 : decode cX1_lostColumns 6 = .ok (.getfield 26, 3) := by decide +kernel
theorem dX1_lostColumns_9 : decode cX1_lostColumns 9 = .ok (.arraylength, 1) := by decide +kernel
theorem dX1_lostColumns_10 : decode cX1_lostColumns 10 = .ok (.if_icmp .ge 21, 3) := by decide +kernel
theorem dX1_lostColumns_13 : decode cX1_lostColumns 13 = .ok (.aload_n 0, 1) := by decide +kernel
theorem dX1_lostColumns_14 : decode cX1_lostColumns 14 = .ok (.getfield 26, 3) := by decide +kernel
theorem dX1_lostColumns_17 : decode cX1_lostColumns 17 = .ok (.iload_n 2, 1) := by decide +kernel
theorem dX1_lostColumns_18 : decode cX1_lostColumns 18 = .ok (.baload, 1) := by decide +kernel
theorem dX1_lostColumns_19 : decode cX1_lostColumns 19 = .ok (.ifCond .eq 6, 3) := by decide +kernel
theorem dX1_lostColumns_22 : decode cX1_lostColumns 22 = .ok (.iinc 1 1, 3) := by decide +kernel
theorem dX1_lostColumns_25 : decode cX1_lostColumns 25 = .ok (.iinc 2 1, 3) := by decide +kernel
theorem dX1_lostColumns_28 : decode cX1_lostColumns 28 = .ok (.goto (-24), 3) := by decide +kernel
theorem dX1_lostColumns_31 : decode cX1_lostColumns 31 = .ok (.iload_n 1, 1) := by decide +kernel
theorem dX1_lostColumns_32 : decode cX1_lostColumns 32 = .ok (.ireturn, 1) := by decide +kernel
theorem dX1_wrongColumns_0 : decode cX1_wrongColumns 0 = .ok (.iconst 0, 1) := by decide +kernel
theorem dX1_wrongColumns_1 : decode cX1_wrongColumns 1 = .ok (.istore_n 1, 1) := by decide +kernel
theorem dX1_wrongColumns_2 : decode cX1_wrongColumns 2 = .ok (.iconst 0, 1) := by decide +kernel
theorem dX1_wrongColumns_3 : decode cX1_wrongColumns 3 = .ok (.istore_n 2, 1) := by decide +kernel
theorem dX1_wrongColumns_4 : decode cX1_wrongColumns 4 = .ok (.iload_n 2, 1) := by decide +kernel
theorem dX1_wrongColumns_5 : decode cX1_wrongColumns 5 = .ok (.aload_n 0, 1) := by decide +kernel
theorem dX1_wrongColumns_6 : decode cX1_wrongColumns 6 = .ok (.getfield 9, 3) := by decide +kernel
theorem dX1_wrongColumns_9 : decode cX1_wrongColumns 9 = .ok (.if_icmp .ge 34, 3) := by decide +kernel
theorem dX1_wrongColumns_12 : decode cX1_wrongColumns 12 = .ok (.iconst 0, 1) := by decide +kernel
theorem dX1_wrongColumns_13 : decode cX1_wrongColumns 13 = .ok (.istore_n 3, 1) := by decide +kernel
theorem dX1_wrongColumns_14 : decode cX1_wrongColumns 14 = .ok (.iload_n 3, 1) := by decide +kernel
theorem dX1_wrongColumns_15 : decode cX1_wrongColumns 15 = .ok (.iconst 4, 1) := by decide +kernel
theorem dX1_wrongColumns_16 : decode cX1_wrongColumns 16 = .ok (.if_icmp .ge 21, 3) := by decide +kernel
theorem dX1_wrongColumns_19 : decode cX1_wrongColumns 19 = .ok (.aload_n 0, 1) := by decide +kernel
theorem dX1_wrongColumns_20 : decode cX1_wrongColumns 20 = .ok (.iload_n 2, 1) := by decide +kernel
theorem dX1_wrongColumns_21 : decode cX1_wrongColumns 21 = .ok (.iload_n 3, 1) := by decide +kernel
theorem dX1_wrongColumns_22 : decode cX1_wrongColumns 22 = .ok (.invokevirtual 40, 3) := by decide +kernel
theorem dX1_wrongColumns_25 : decode cX1_wrongColumns 25 = .ok (.ifCond .eq 6, 3) := by decide +kernel
theorem dX1_wrongColumns_28 : decode cX1_wrongColumns 28 = .ok (.iinc 1 1, 3) := by decide +kernel
theorem dX1_wrongColumns_31 : decode cX1_wrongColumns 31 = .ok (.iinc 3 1, 3) := by decide +kernel
theorem dX1_wrongColumns_34 : decode cX1_wrongColumns 34 = .ok (.goto (-20), 3) := by decide +kernel
theorem dX1_wrongColumns_37 : decode cX1_wrongColumns 37 = .ok (.iinc 2 1, 3) := by decide +kernel
theorem dX1_wrongColumns_40 : decode cX1_wrongColumns 40 = .ok (.goto (-36), 3) := by decide +kernel
theorem dX1_wrongColumns_43 : decode cX1_wrongColumns 43 = .ok (.iload_n 1, 1) := by decide +kernel
theorem dX1_wrongColumns_44 : decode cX1_wrongColumns 44 = .ok (.ireturn, 1) := by decide +kernel
theorem dX1_brokenStripes_0 : decode cX1_brokenStripes 0 = .ok (.iconst 0, 1) := by decide +kernel
theorem dX1_brokenStripes_1 : decode cX1_brokenStripes 1 = .ok (.istore_n 1, 1) := by decide +kernel
theorem dX1_brokenStripes_2 : decode cX1_brokenStripes 2 = .ok (.iconst 0, 1) := by decide +kernel
theorem dX1_brokenStripes_3 : decode cX1_brokenStripes 3 = .ok (.istore_n 2, 1) := by decide +kernel
theorem dX1_brokenStripes_4 : decode cX1_brokenStripes 4 = .ok (.iload_n 2, 1) := by decide +kernel
theorem dX1_brokenStripes_5 : decode cX1_brokenStripes 5 = .ok (.aload_n 0, 1) := by decide +kernel
theorem dX1_brokenStripes_6 : decode cX1_brokenStripes 6 = .ok (.getfield 9, 3) := by decide +kernel
theorem dX1_brokenStripes_9 : decode cX1_brokenStripes 9 = .ok (.if_icmp .ge 20, 3) := by decide +kernel
theorem dX1_brokenStripes_12 : decode cX1_brokenStripes 12 = .ok (.aload_n 0, 1) := by decide +kernel
theorem dX1_brokenStripes_13 : decode cX1_brokenStripes 13 = .ok (.iload_n 2, 1) := by decide +kernel
theorem dX1_brokenStripes_14 : decode cX1_brokenStripes 14 = .ok (.invokevirtual 74, 3) := by decide +kernel
theorem dX1_brokenStripes_17 : decode cX1_brokenStripes 17 = .ok (.ifCond .eq 6, 3) := by decide +kernel
theorem dX1_brokenStripes_20 : decode cX1_brokenStripes 20 = .ok (.iinc 1 1, 3) := by decide +kernel
theorem dX1_brokenStripes_23 : decode cX1_brokenStripes 23 = .ok (.iinc 2 1, 3) := by decide +kernel
theorem dX1_brokenStripes_26 : decode cX1_brokenStripes 26 = .ok (.goto (-22), 3) := by decide +kernel
theorem dX1_brokenStripes_29 : decode cX1_brokenStripes 29 = .ok (.iload_n 1, 1) := by decide +kernel
theorem dX1_brokenStripes_30 : decode cX1_brokenStripes 30 = .ok (.ireturn, 1) := by decide +kernel
theorem dX1_nextVisited_0 : decode cX1_nextVisited 0 = .ok (.aload_n 0, 1) := by decide +kernel
theorem dX1_nextVisited_1 : decode cX1_nextVisited 1 = .ok (.getfield 71, 3) := by decide +kernel
theorem dX1_nextVisited_4 : decode cX1_nextVisited 4 = .ok (.ireturn, 1) := by decide +kernel
theorem dX0_freeRuns_0 : decode cX0_freeRuns 0 = .ok (.iconst 0, 1) := by decide +kernel
theorem dX0_freeRuns_1 : decode cX0_freeRuns 1 = .ok (.istore_n 1, 1) := by decide +kernel
theorem dX0_freeRuns_2 : decode cX0_freeRuns 2 = .ok (.iconst 0, 1) := by decide +kernel
theorem dX0_freeRuns_3 : decode cX0_freeRuns 3 = .ok (.istore_n 2, 1) := by decide +kernel
theorem dX0_freeRuns_4 : decode cX0_freeRuns 4 = .ok (.iload_n 2, 1) := by decide +kernel
theorem dX0_freeRuns_5 : decode cX0_freeRuns 5 = .ok (.aload_n 0, 1) := by decide +kernel
theorem dX0_freeRuns_6 : decode cX0_freeRuns 6 = .ok (.getfield 9, 3) := by decide +kernel
theorem dX0_freeRuns_9 : decode cX0_freeRuns 9 = .ok (.arraylength, 1) := by decide +kernel
theorem dX0_freeRuns_10 : decode cX0_freeRuns 10 = .ok (.if_icmp .ge 20, 3) := by decide +kernel
theorem dX0_freeRuns_13 : decode cX0_freeRuns 13 = .ok (.aload_n 0, 1) := by decide +kernel
theorem dX0_freeRuns_14 : decode cX0_freeRuns 14 = .ok (.iload_n 2, 1) := by decide +kernel
theorem dX0_freeRuns_15 : decode cX0_freeRuns 15 = .ok (.invokevirtual 55, 3) := by decide +kernel
theorem dX0_freeRuns_18 : decode cX0_freeRuns 18 = .ok (.ifCond .eq 6, 3) := by decide +kernel
theorem dX0_freeRuns_21 : decode cX0_freeRuns 21 = .ok (.iinc 1 1, 3) := by decide +kernel
theorem dX0_freeRuns_24 : decode cX0_freeRuns 24 = .ok (.iinc 2 1, 3) := by decide +kernel
theorem dX0_freeRuns_27 : decode cX0_freeRuns 27 = .ok (.goto (-23), 3) := by decide +kernel
theorem dX0_freeRuns_30 : decode cX0_freeRuns 30 = .ok (.iload_n 1, 1) := by decide +kernel
theorem dX0_freeRuns_31 : decode cX0_freeRuns 31 = .ok (.ireturn, 1) := by decide +kernel
