theorem dX0_init_0 : decode cX0_init 0 = .ok (.aload_n 0, 1) := by decide +kernel
theorem dX0_init_1 : decode cX0_init 1 = .ok (.invokespecial 1, 3) := by decide +kernel
theorem dX0_init_4 : decode cX0_init 4 = .ok (.aload_n 0, 1) := by decide +kernel
theorem dX0_init_5 : decode cX0_init 5 = .ok (.iconst (-1), 1) := by decide +kernel
theorem dX0_init_6 : decode cX0_init 6 = .ok (.putfield 7, 3) := by decide +kernel
theorem dX0_init_9 : decode cX0_init 9 = .ok (.aload_n 0, 1) := by decide +kernel
theorem dX0_init_10 : decode cX0_init 10 = .ok (.iconst (-1), 1) := by decide +kernel
theorem dX0_init_11 : decode cX0_init 11 = .ok (.putfield 13, 3) := by decide +kernel
theorem dX0_init_14 : decode cX0_init 14 = .ok (.aload_n 0, 1) := by decide +kernel
theorem dX0_init_15 : decode cX0_init 15 = .ok (.iload_n 1, 1) := by decide +kernel
theorem dX0_init_16 : decode cX0_init 16 = .ok (.putfield 16, 3) := by decide +kernel
theorem dX0_init_19 : decode cX0_init 19 = .ok (.aload_n 0, 1) := by decide +kernel
theorem dX0_init_20 : decode cX0_init 20 = .ok (.fload_n 2, 1) := by decide +kernel
theorem dX0_init_21 : decode cX0_init 21 = .ok (.putfield 19, 3) := by decide +kernel
theorem dX0_init_24 : decode cX0_init 24 = .ok (.return_, 1) := by decide +kernel
theorem dX1_init_0 : decode cX1_init 0 = .ok (.aload_n 0, 1) := by decide +kernel
theorem dX1_init_1 : decode cX1_init 1 = .ok (.invokespecial 3, 3) := by decide +kernel
theorem dX1_init_4 : decode cX1_init 4 = .ok (.aload_n 0, 1) := by decide +kernel
theorem dX1_init_5 : decode cX1_init 5 = .ok (.iconst 0, 1) := by decide +kernel
theorem dX1_init_6 : decode cX1_init 6 = .ok (.putfield 9, 3) := by decide +kernel
theorem dX1_init_9 : decode cX1_init 9 = .ok (.aload_n 0, 1) := by decide +kernel
theorem dX1_init_10 : decode cX1_init 10 = .ok (.iconst (-1), 1) := by decide +kernel
theorem dX1_init_11 : decode cX1_init 11 = .ok (.putfield 15, 3) := by decide +kernel
theorem dX1_init_14 : decode cX1_init 14 = .ok (.aload_n 0, 1) := by decide +kernel
theorem dX1_init_15 : decode cX1_init 15 = .ok (.iconst (-1), 1) := by decide +kernel
theorem dX1_init_16 : decode cX1_init 16 = .ok (.putfield 18, 3) := by decide +kernel
theorem dX1_init_19 : decode cX1_init 19 = .ok (.aload_n 0, 1) := by decide +kernel
theorem dX1_init_20 : decode cX1_init 20 = .ok (.bipush 8, 2) := by decide +kernel
theorem dX1_init_22 : decode cX1_init 22 = .ok (.newarray .int, 2) := by decide +kernel
theorem dX1_init_24 : decode cX1_init 24 = .ok (.putfield 21, 3) := by decide +kernel
theorem dX1_init_27 : decode cX1_init 27 = .ok (.aload_n 0, 1) := by decide +kernel
theorem dX1_init_28 : decode cX1_init 28 = .ok (.bipush 8, 2) := by decide +kernel
theorem dX1_init_30 : decode cX1_init 30 = .ok (.newarray .int, 2) := by decide +kernel
theorem dX1_init_32 : decode cX1_init 32 = .ok (.putfield 25, 3) := by decide +kernel
theorem dX1_init_35 : decode cX1_init 35 = .ok (.aload_n 0, 1) := by decide +kernel
theorem dX1_init_36 : decode cX1_init 36 = .ok (.bipush 8, 2) := by decide +kernel
theorem dX1_init_38 : decode cX1_init 38 = .ok (.newarray .int, 2) := by decide +kernel
theorem dX1_init_40 : decode cX1_init 40 = .ok (.putfield 28, 3) := by decide +kernel
theorem dX1_init_43 : decode cX1_init 43 = .ok (.aload_n 0, 1) := by decide +kernel
theorem dX1_init_44 : decode cX1_init 44 = .ok (.iload_n 1, 1) := by decide +kernel
theorem dX1_init_45 : decode cX1_init 45 = .ok (.putfield 31, 3) := by decide +kernel
theorem dX1_init_48 : decode cX1_init 48 = .ok (.aload_n 0, 1) := by decide +kernel
theorem dX1_init_49 : decode cX1_init 49 = .ok (.iload_n 2, 1) := by decide +kernel
theorem dX1_init_50 : decode cX1_init 50 = .ok (.putfield 34, 3) := by decide +kernel
theorem dX1_init_53 : decode cX1_init 53 = .ok (.aload_n 0, 1) := by decide +kernel
theorem dX1_init_54 : decode cX1_init 54 = .ok (.iload_n 3, 1) := by decide +kernel
theorem dX1_init_55 : decode cX1_init 55 = .ok (.putfield 37, 3) := by decide +kernel
theorem dX1_init_58 : decode cX1_init 58 = .ok (.aload_n 0, 1) := by decide +kernel
theorem dX1_init_59 : decode cX1_init 59 = .ok (.iload 4, 2) := by decide +kernel
theorem dX1_init_61 : decode cX1_init 61 = .ok (.putfield 40, 3) := by decide +kernel
theorem dX1_init_64 : decode cX1_init 64 = .ok (.aload_n 0, 1) := by decide +kernel
theorem dX1_init_65 : decode cX1_init 65 = .ok (.aload 5, 2) := by decide +kernel
theorem dX1_init_67 : decode cX1_init 67 = .ok (.putfield 43, 3) := by decide +kernel
theorem dX1_init_70 : decode cX1_init 70 = .ok (.return_, 1) := by decide +kernel
theorem dX2_init_0 : decode cX2_init 0 = .ok (.aload_n 0, 1) := by decide +kernel
theorem dX2_init_1 : decode cX2_init 1 = .ok (.invokespecial 3, 3) := by decide +kernel
theorem dX2_init_4 : decode cX2_init 4 = .ok (.aload_n 0, 1) := by decide +kernel
theorem dX2_init_5 : decode cX2_init 5 = .ok (.sipush 2000, 3) := by decide +kernel
theorem dX2_init_8 : decode cX2_init 8 = .ok (.newarray .float, 2) := by decide +kernel
theorem dX2_init_10 : decode cX2_init 10 = .ok (.putfield 9, 3) := by decide +kernel
theorem dX2_init_13 : decode cX2_init 13 = .ok (.aload_n 0, 1) := by decide +kernel
theorem dX2_init_14 : decode cX2_init 14 = .ok (.sipush 2000, 3) := by decide +kernel
theorem dX2_init_17 : decode cX2_init 17 = .ok (.newarray .int, 2) := by decide +kernel
theorem dX2_init_19 : decode cX2_init 19 = .ok (.putfield 15, 3) := by decide +kernel
theorem dX2_init_22 : decode cX2_init 22 = .ok (.return_, 1) := by decide +kernel
theorem dX3_init_0 : decode cX3_init 0 = .ok (.aload_n 0, 1) := by decide +kernel
theorem dX3_init_1 : decode cX3_init 1 = .ok (.invokespecial 1, 3) := by decide +kernel
theorem dX3_init_4 : decode cX3_init 4 = .ok (.aload_n 0, 1) := by decide +kernel
theorem dX3_init_5 : decode cX3_init 5 = .ok (.bipush 120, 2) := by decide +kernel
theorem dX3_init_7 : decode cX3_init 7 = .ok (.anewarray 9, 3) := by decide +kernel
theorem dX3_init_10 : decode cX3_init 10 = .ok (.putfield 11, 3) := by decide +kernel
theorem dX3_init_13 : decode cX3_init 13 = .ok (.aload_n 0, 1) := by decide +kernel
theorem dX3_init_14 : decode cX3_init 14 = .ok (.bipush 9, 2) := by decide +kernel
theorem dX3_init_16 : decode cX3_init 16 = .ok (.anewarray 9, 3) := by decide +kernel
theorem dX3_init_19 : decode cX3_init 19 = .ok (.putfield 15, 3) := by decide +kernel
theorem dX3_init_22 : decode cX3_init 22 = .ok (.aload_n 0, 1) := by decide +kernel
theorem dX3_init_23 : decode cX3_init 23 = .ok (.bipush 6, 2) := by decide +kernel
theorem dX3_init_25 : decode cX3_init 25 = .ok (.anewarray 18, 3) := by decide +kernel
theorem dX3_init_28 : decode cX3_init 28 = .ok (.putfield 20, 3) := by decide +kernel
theorem dX3_init_31 : decode cX3_init 31 = .ok (.aload_n 0, 1) := by decide +kernel
theorem dX3_init_32 : decode cX3_init 32 = .ok (.bipush 6, 2) := by decide +kernel
theorem dX3_init_34 : decode cX3_init 34 = .ok (.anewarray 24, 3) := by decide +kernel
theorem dX3_init_37 : decode cX3_init 37 = .ok (.putfield 26, 3) := by decide +kernel
theorem dX3_init_40 : decode cX3_init 40 = .ok (.aload_n 0, 1) := by decide +kernel
theorem dX3_init_41 : decode cX3_init 41 = .ok (.bipush 10, 2) := by decide +kernel
theorem dX3_init_43 : decode cX3_init 43 = .ok (.newarray .int, 2) := by decide +kernel
theorem dX3_init_45 : decode cX3_init 45 = .ok (.putfield 30, 3) := by decide +kernel
theorem dX3_init_48 : decode cX3_init 48 = .ok (.iconst 0, 1) := by decide +kernel
theorem dX3_init_49 : decode cX3_init 49 = .ok (.istore_n 1, 1) := by decide +kernel
theorem dX3_init_50 : decode cX3_init 50 = .ok (.iload_n 1, 1) := by decide +kernel
theorem dX3_init_51 : decode cX3_init 51 = .ok (.bipush 6, 2) := by decide +kernel
theorem dX3_init_53 : decode cX3_init 53 = .ok (.if_icmp .ge 22, 3) := by decide +kernel
theorem dX3_init_56 : decode cX3_init 56 = .ok (.aload_n 0, 1) := by decide +kernel
theorem dX3_init_57 : decode cX3_init 57 = .ok (.getfield 20, 3) := by decide +kernel
theorem dX3_init_60 : decode cX3_init 60 = .ok (.iload_n 1, 1) := by decide +kernel
theorem dX3_init_61 : decode cX3_init 61 = .ok (.new 18, 3) := by decide +kernel
theorem dX3_init_64 : decode cX3_init 64 = .ok (.dup, 1) := by decide +kernel
theorem dX3_init_65 : decode cX3_init 65 = .ok (.invokespecial 34, 3) := by decide +kernel
theorem dX3_init_68 : decode cX3_init 68 = .ok (.aastore, 1) := by decide +kernel
theorem dX3_init_69 : decode cX3_init 69 = .ok (.iinc 1 1, 3) := by decide +kernel
theorem dX3_init_72 : decode cX3_init 72 = .ok (.goto (-22), 3) := by decide +kernel
theorem dX3_init_75 : decode cX3_init 75 = .ok (.return_, 1) := by decide +kernel
theorem dX3_yarn_0 : decode cX3_yarn 0 = .ok (.aload_n 0, 1) := by decide +kernel
theorem dX3_yarn_1 : decode cX3_yarn 1 = .ok (.iconst 0, 1) := by decide +kernel
theorem dX3_yarn_2 : decode cX3_yarn 2 = .ok (.iload_n 1, 1) := by decide +kernel
theorem dX3_yarn_3 : decode cX3_yarn 3 = .ok (.iload_n 2, 1) := by decide +kernel
theorem dX3_yarn_4 : decode cX3_yarn 4 = .ok (.invokevirtual 35, 3) := by decide +kernel
theorem dX3_yarn_7 : decode cX3_yarn 7 = .ok (.ireturn, 1) := by decide +kernel
theorem dX3_tape_0 : decode cX3_tape 0 = .ok (.aload_n 0, 1) := by decide +kernel
theorem dX3_tape_1 : decode cX3_tape 1 = .ok (.iconst 4, 1) := by decide +kernel
theorem dX3_tape_2 : decode cX3_tape 2 = .ok (.iload_n 1, 1) := by decide +kernel
theorem dX3_tape_3 : decode cX3_tape 3 = .ok (.iload_n 2, 1) := by decide +kernel
theorem dX3_tape_4 : decode cX3_tape 4 = .ok (.invokevirtual 35, 3) := by decide +kernel
theorem dX3_tape_7 : decode cX3_tape 7 = .ok (.ireturn, 1) := by decide +kernel
theorem dX3_spin_0 : decode cX3_spin 0 = .ok (.iload_n 2, 1) := by decide +kernel
theorem dX3_spin_1 : decode cX3_spin 1 = .ok (.iconst 1, 1) := by decide +kernel
theorem dX3_spin_2 : decode cX3_spin 2 = .ok (.if_icmp .lt 20, 3) := by decide +kernel
theorem dX3_spin_5 : decode cX3_spin 5 = .ok (.iload_n 2, 1) := by decide +kernel
theorem dX3_spin_6 : decode cX3_spin 6 = .ok (.sipush 2000, 3) := by decide +kernel
theorem dX3_spin_9 : decode cX3_spin 9 = .ok (.if_icmp .gt 13, 3) := by decide +kernel
theorem dX3_spin_12 : decode cX3_spin 12 = .ok (.iload_n 3, 1) := by decide +kernel
theorem dX3_spin_13 : decode cX3_spin 13 = .ok (.ifCond .lt 9, 3) := by decide +kernel
theorem dX3_spin_16 : decode cX3_spin 16 = .ok (.iload_n 3, 1) := by decide +kernel
theorem dX3_spin_17 : decode cX3_spin 17 = .ok (.ldc 39, 2) := by decide +kernel
theorem dX3_spin_19 : decode cX3_spin 19 = .ok (.if_icmp .le 6, 3) := by decide +kernel
theorem dX3_spin_22 : decode cX3_spin 22 = .ok (.bipush (-2), 2) := by decide +kernel
theorem dX3_spin_24 : decode cX3_spin 24 = .ok (.ireturn, 1) := by decide +kernel
theorem dX3_spin_25 : decode cX3_spin 25 = .ok (.aload_n 0, 1) := by decide +kernel
theorem dX3_spin_26 : decode cX3_spin 26 = .ok (.getfield 40, 3) := by decide +kernel
theorem dX3_spin_29 : decode cX3_spin 29 = .ok (.bipush 120, 2) := by decide +kernel
theorem dX3_spin_31 : decode cX3_spin 31 = .ok (.if_icmp .lt 6, 3) := by decide +kernel
theorem dX3_spin_34 : decode cX3_spin 34 = .ok (.bipush (-2), 2) := by decide +kernel
theorem dX3_spin_36 : decode cX3_spin 36 = .ok (.ireturn, 1) := by decide +kernel
theorem dX3_spin_37 : decode cX3_spin 37 = .ok (.iload_n 3, 1) := by decide +kernel
theorem dX3_spin_38 : decode cX3_spin 38 = .ok (.i2f, 1) := by decide +kernel
theorem dX3_spin_39 : decode cX3_spin 39 = .ok (.ldc 44, 2) := by decide +kernel
theorem dX3_spin_41 : decode cX3_spin 41 = .ok (.fmul, 1) := by decide +kernel
theorem dX3_spin_42 : decode cX3_spin 42 = .ok (.fstore 4, 2) := by decide +kernel
theorem dX3_spin_44 : decode cX3_spin 44 = .ok (.new 9, 3) := by decide +kernel
theorem dX3_spin_47 : decode cX3_spin 47 = .ok (.dup, 1) := by decide +kernel
theorem dX3_spin_48 : decode cX3_spin 48 = .ok (.aload_n 0, 1) := by decide +kernel
theorem dX3_spin_49 : decode cX3_spin 49 = .ok (.getfield 40, 3) := by decide +kernel
theorem dX3_spin_52 : decode cX3_spin 52 = .ok (.iload_n 1, 1) := by decide +kernel
theorem dX3_spin_53 : decode cX3_spin 53 = .ok (.iload_n 2, 1) := by decide +kernel
theorem dX3_spin_54 : decode cX3_spin 54 = .ok (.iconst 0, 1) := by decide +kernel
theorem dX3_spin_55 : decode cX3_spin 55 = .ok (.iconst 0, 1) := by decide +kernel
theorem dX3_spin_56 : decode cX3_spin 56 = .ok (.anewarray 9, 3) := by decide +kernel
theorem dX3_spin_59 : decode cX3_spin 59 = .ok (.invokespecial 45, 3) := by decide +kernel
theorem dX3_spin_62 : decode cX3_spin 62 = .ok (.astore 5, 2) := by decide +kernel
theorem dX3_spin_64 : decode cX3_spin 64 = .ok (.aload 5, 2) := by decide +kernel
theorem dX3_spin_66 : decode cX3_spin 66 = .ok (.iload_n 1, 1) := by decide +kernel
theorem dX3_spin_67 : decode cX3_spin 67 = .ok (.iconst 4, 1) := by decide +kernel
theorem dX3_spin_68 : decode cX3_spin 68 = .ok (.if_icmp .ne 11, 3) := by decide +kernel
theorem dX3_spin_71 : decode cX3_spin 71 = .ok (.fload 4, 2) := by decide +kernel
theorem dX3_spin_73 : decode cX3_spin 73 = .ok (.ldc 48, 2) := by decide +kernel
theorem dX3_spin_75 : decode cX3_spin 75 = .ok (.fmul, 1) := by decide +kernel
theorem dX3_spin_76 : decode cX3_spin 76 = .ok (.goto 5, 3) := by decide +kernel
theorem dX3_spin_79 : decode cX3_spin 79 = .ok (.fload 4, 2) := by decide +kernel
theorem dX3_spin_81 : decode cX3_spin 81 = .ok (.putfield 49, 3) := by decide +kernel
theorem dX3_spin_84 : decode cX3_spin 84 = .ok (.aload 5, 2) := by decide +kernel
theorem dX3_spin_86 : decode cX3_spin 86 = .ok (.iload_n 1, 1) := by decide +kernel
theorem dX3_spin_87 : decode cX3_spin 87 = .ok (.iconst 4, 1) := by decide +kernel
theorem dX3_spin_88 : decode cX3_spin 88 = .ok (.if_icmp .ne 9, 3) := by decide +kernel
theorem dX3_spin_91 : decode cX3_spin 91 = .ok (.iconst 2, 1) := by decide +kernel
theorem dX3_spin_92 : decode cX3_spin 92 = .ok (.iload_n 2, 1) := by decide +kernel
theorem dX3_spin_93 : decode cX3_spin 93 = .ok (.imul, 1) := by decide +kernel
theorem dX3_spin_94 : decode cX3_spin 94 = .ok (.goto 4, 3) := by decide +kernel
theorem dX3_spin_97 : decode cX3_spin 97 = .ok (.iload_n 2, 1) := by decide +kernel
theorem dX3_spin_98 : decode cX3_spin 98 = .ok (.putfield 53, 3) := by decide +kernel
theorem dX3_spin_101 : decode cX3_spin 101 = .ok (.aload_n 0, 1) := by decide +kernel
theorem dX3_spin_102 : decode cX3_spin 102 = .ok (.aload 5, 2) := by decide +kernel
theorem dX3_spin_104 : decode cX3_spin 104 = .ok (.invokevirtual 56, 3) := by decide +kernel
theorem dX3_spin_107 : decode cX3_spin 107 = .ok (.ireturn, 1) := by decide +kernel
theorem dX3_keep_0 : decode cX3_keep 0 = .ok (.aload_n 0, 1) := by decide +kernel
theorem dX3_keep_1 : decode cX3_keep 1 = .ok (.getfield 40, 3) := by decide +kernel
theorem dX3_keep_4 : decode cX3_keep 4 = .ok (.bipush 120, 2) := by decide +kernel
theorem dX3_keep_6 : decode cX3_keep 6 = .ok (.if_icmp .lt 6, 3) := by decide +kernel
theorem dX3_keep_9 : decode cX3_keep 9 = .ok (.bipush (-2), 2) := by decide +kernel
theorem dX3_keep_11 : decode cX3_keep 11 = .ok (.ireturn, 1) := by decide +kernel
theorem dX3_keep_12 : decode cX3_keep 12 = .ok (.aload_n 0, 1) := by decide +kernel
theorem dX3_keep_13 : decode cX3_keep 13 = .ok (.getfield 11, 3) := by decide +kernel
theorem dX3_keep_16 : decode cX3_keep 16 = .ok (.aload_n 0, 1) := by decide +kernel
theorem dX3_keep_17 : decode cX3_keep 17 = .ok (.getfield 40, 3) := by decide +kernel
theorem dX3_keep_20 : decode cX3_keep 20 = .ok (.aload_n 1, 1) := by decide +kernel
theorem dX3_keep_21 : decode cX3_keep 21 = .ok (.aastore, 1) := by decide +kernel
theorem dX3_keep_22 : decode cX3_keep 22 = .ok (.aload_n 0, 1) := by decide +kernel
theorem dX3_keep_23 : decode cX3_keep 23 = .ok (.dup, 1) := by decide +kernel
theorem dX3_keep_24 : decode cX3_keep 24 = .ok (.getfield 40, 3) := by decide +kernel
theorem dX3_keep_27 : decode cX3_keep 27 = .ok (.iconst 1, 1) := by decide +kernel
theorem dX3_keep_28 : decode cX3_keep 28 = .ok (.iadd, 1) := by decide +kernel
theorem dX3_keep_29 : decode cX3_keep 29 = .ok (.putfield 40, 3) := by decide +kernel
theorem dX3_keep_32 : decode cX3_keep 32 = .ok (.aload_n 1, 1) := by decide +kernel
theorem dX3_keep_33 : decode cX3_keep 33 = .ok (.getfield 60, 3) := by decide +kernel
theorem dX3_keep_36 : decode cX3_keep 36 = .ok (.ireturn, 1) := by decide +kernel
theorem dX3_pieceAt_0 : decode cX3_pieceAt 0 = .ok (.iload_n 1, 1) := by decide +kernel
theorem dX3_pieceAt_1 : decode cX3_pieceAt 1 = .ok (.ifCond .lt 17, 3) := by decide +kernel
theorem dX3_pieceAt_4 : decode cX3_pieceAt 4 = .ok (.iload_n 1, 1) := by decide +kernel
theorem dX3_pieceAt_5 : decode cX3_pieceAt 5 = .ok (.aload_n 0, 1) := by decide +kernel
theorem dX3_pieceAt_6 : decode cX3_pieceAt 6 = .ok (.getfield 40, 3) := by decide +kernel
theorem dX3_pieceAt_9 : decode cX3_pieceAt 9 = .ok (.if_icmp .ge 9, 3) := by decide +kernel
theorem dX3_pieceAt_12 : decode cX3_pieceAt 12 = .ok (.iload_n 1, 1) := by decide +kernel
theorem dX3_pieceAt_13 : decode cX3_pieceAt 13 = .ok (.bipush 120, 2) := by decide +kernel
theorem dX3_pieceAt_15 : decode cX3_pieceAt 15 = .ok (.if_icmp .lt 5, 3) := by decide +kernel
theorem dX3_pieceAt_18 : decode cX3_pieceAt 18 = .ok (.aconst_null, 1) := by decide +kernel
theorem dX3_pieceAt_19 : decode cX3_pieceAt 19 = .ok (.areturn, 1) := by decide +kernel
theorem dX3_pieceAt_20 : decode cX3_pieceAt 20 = .ok (.aload_n 0, 1) := by decide +kernel
theorem dX3_pieceAt_21 : decode cX3_pieceAt 21 = .ok (.getfield 11, 3) := by decide +kernel
theorem dX3_pieceAt_24 : decode cX3_pieceAt 24 = .ok (.iload_n 1, 1) := by decide +kernel
theorem dX3_pieceAt_25 : decode cX3_pieceAt 25 = .ok (.aaload, 1) := by decide +kernel
theorem dX3_pieceAt_26 : decode cX3_pieceAt 26 = .ok (.areturn, 1) := by decide +kernel
theorem dX3_pieceNotGone_0 : decode cX3_pieceNotGone 0 = .ok (.aload_n 0, 1) := by decide +kernel
theorem dX3_pieceNotGone_1 : decode cX3_pieceNotGone 1 = .ok (.iload_n 1, 1) := by decide +kernel
theorem dX3_pieceNotGone_2 : decode cX3_pieceNotGone 2 = .ok (.invokevirtual 63, 3) := by decide +kernel
theorem dX3_pieceNotGone_5 : decode cX3_pieceNotGone 5 = .ok (.astore_n 2, 1) := by decide +kernel
theorem dX3_pieceNotGone_6 : decode cX3_pieceNotGone 6 = .ok (.aload_n 2, 1) := by decide +kernel
theorem dX3_pieceNotGone_7 : decode cX3_pieceNotGone 7 = .ok (.ifnull 11, 3) := by decide +kernel
theorem dX3_pieceNotGone_10 : decode cX3_pieceNotGone 10 = .ok (.aload_n 2, 1) := by decide +kernel
theorem dX3_pieceNotGone_11 : decode cX3_pieceNotGone 11 = .ok (.getfield 67, 3) := by decide +kernel
theorem dX3_pieceNotGone_14 : decode cX3_pieceNotGone 14 = .ok (.iconst 3, 1) := by decide +kernel
theorem dX3_pieceNotGone_15 : decode cX3_pieceNotGone 15 = .ok (.if_icmp .ne 7, 3) := by decide +kernel
theorem dX3_pieceNotGone_18 : decode cX3_pieceNotGone 18 = .ok (.aconst_null, 1) := by decide +kernel
theorem dX3_pieceNotGone_19 : decode cX3_pieceNotGone 19 = .ok (.goto 4, 3) := by decide +kernel
theorem dX3_pieceNotGone_22 : decode cX3_pieceNotGone 22 = .ok (.aload_n 2, 1) := by decide +kernel
theorem dX3_pieceNotGone_23 : decode cX3_pieceNotGone 23 = .ok (.areturn, 1) := by decide +kernel
theorem dX3_freePiece_0 : decode cX3_freePiece 0 = .ok (.aload_n 0, 1) := by decide +kernel
theorem dX3_freePiece_1 : decode cX3_freePiece 1 = .ok (.iload_n 1, 1) := by decide +kernel
theorem dX3_freePiece_2 : decode cX3_freePiece 2 = .ok (.invokevirtual 63, 3) := by decide +kernel
theorem dX3_freePiece_5 : decode cX3_freePiece 5 = .ok (.astore_n 2, 1) := by decide +kernel
theorem dX3_freePiece_6 : decode cX3_freePiece 6 = .ok (.aload_n 2, 1) := by decide +kernel
theorem dX3_freePiece_7 : decode cX3_freePiece 7 = .ok (.ifnull 10, 3) := by decide +kernel
theorem dX3_freePiece_10 : decode cX3_freePiece 10 = .ok (.aload_n 2, 1) := by decide +kernel
theorem dX3_freePiece_11 : decode cX3_freePiece 11 = .ok (.getfield 67, 3) := by decide +kernel
theorem dX3_freePiece_14 : decode cX3_freePiece 14 = .ok (.ifCond .eq 7, 3) := by decide +kernel
theorem dX3_freePiece_17 : decode cX3_freePiece 17 = .ok (.aconst_null, 1) := by decide +kernel
theorem dX3_freePiece_18 : decode cX3_freePiece 18 = .ok (.goto 4, 3) := by decide +kernel
theorem dX3_freePiece_21 : decode cX3_freePiece 21 = .ok (.aload_n 2, 1) := by decide +kernel
theorem dX3_freePiece_22 : decode cX3_freePiece 22 = .ok (.areturn, 1) := by decide +kernel
theorem dX3_pick_0 : decode cX3_pick 0 = .ok (.aload_n 0, 1) := by decide +kernel
theorem dX3_pick_1 : decode cX3_pick 1 = .ok (.iload_n 1, 1) := by decide +kernel
theorem dX3_pick_2 : decode cX3_pick 2 = .ok (.invokevirtual 70, 3) := by decide +kernel
theorem dX3_pick_5 : decode cX3_pick 5 = .ok (.astore_n 2, 1) := by decide +kernel
theorem dX3_pick_6 : decode cX3_pick 6 = .ok (.aload_n 2, 1) := by decide +kernel
theorem dX3_pick_7 : decode cX3_pick 7 = .ok (.ifnull 20, 3) := by decide +kernel
theorem dX3_pick_10 : decode cX3_pick 10 = .ok (.aload_n 0, 1) := by decide +kernel
theorem dX3_pick_11 : decode cX3_pick 11 = .ok (.aload_n 2, 1) := by decide +kernel
theorem dX3_pick_12 : decode cX3_pick 12 = .ok (.invokevirtual 73, 3) := by decide +kernel
theorem dX3_pick_15 : decode cX3_pick 15 = .ok (.ifCond .ne 12, 3) := by decide +kernel
theorem dX3_pick_18 : decode cX3_pick 18 = .ok (.aload_n 0, 1) := by decide +kernel
theorem dX3_pick_19 : decode cX3_pick 19 = .ok (.getfield 77, 3) := by decide +kernel
theorem dX3_pick_22 : decode cX3_pick 22 = .ok (.bipush 9, 2) := by decide +kernel
theorem dX3_pick_24 : decode cX3_pick 24 = .ok (.if_icmp .lt 6, 3) := by decide +kernel
theorem dX3_pick_27 : decode cX3_pick 27 = .ok (.bipush (-2), 2) := by decide +kernel
theorem dX3_pick_29 : decode cX3_pick 29 = .ok (.ireturn, 1) := by decide +kernel
theorem dX3_pick_30 : decode cX3_pick 30 = .ok (.aload_n 0, 1) := by decide +kernel
theorem dX3_pick_31 : decode cX3_pick 31 = .ok (.getfield 15, 3) := by decide +kernel
theorem dX3_pick_34 : decode cX3_pick 34 = .ok (.aload_n 0, 1) := by decide +kernel
theorem dX3_pick_35 : decode cX3_pick 35 = .ok (.getfield 77, 3) := by decide +kernel
theorem dX3_pick_38 : decode cX3_pick 38 = .ok (.aload_n 2, 1) := by decide +kernel
theorem dX3_pick_39 : decode cX3_pick 39 = .ok (.aastore, 1) := by decide +kernel
theorem dX3_pick_40 : decode cX3_pick 40 = .ok (.aload_n 0, 1) := by decide +kernel
theorem dX3_pick_41 : decode cX3_pick 41 = .ok (.dup, 1) := by decide +kernel
theorem dX3_pick_42 : decode cX3_pick 42 = .ok (.getfield 77, 3) := by decide +kernel
theorem dX3_pick_45 : decode cX3_pick 45 = .ok (.iconst 1, 1) := by decide +kernel
theorem dX3_pick_46 : decode cX3_pick 46 = .ok (.iadd, 1) := by decide +kernel
theorem dX3_pick_47 : decode cX3_pick 47 = .ok (.putfield 77, 3) := by decide +kernel
theorem dX3_pick_50 : decode cX3_pick 50 = .ok (.aload_n 0, 1) := by decide +kernel
theorem dX3_pick_51 : decode cX3_pick 51 = .ok (.getfield 77, 3) := by decide +kernel
theorem dX3_pick_54 : decode cX3_pick 54 = .ok (.ireturn, 1) := by decide +kernel
theorem dX3_isPicked_0 : decode cX3_isPicked 0 = .ok (.iconst 0, 1) := by decide +kernel
theorem dX3_isPicked_1 : decode cX3_isPicked 1 = .ok (.istore_n 2, 1) := by decide +kernel
theorem dX3_isPicked_2 : decode cX3_isPicked 2 = .ok (.iload_n 2, 1) := by decide +kernel
theorem dX3_isPicked_3 : decode cX3_isPicked 3 = .ok (.aload_n 0, 1) := by decide +kernel
theorem dX3_isPicked_4 : decode cX3_isPicked 4 = .ok (.getfield 77, 3) := by decide +kernel
theorem dX3_isPicked_7 : decode cX3_isPicked 7 = .ok (.if_icmp .ge 27, 3) := by decide +kernel
theorem dX3_isPicked_10 : decode cX3_isPicked 10 = .ok (.iload_n 2, 1) := by decide +kernel
theorem dX3_isPicked_11 : decode cX3_isPicked 11 = .ok (.bipush 9, 2) := by decide +kernel
theorem dX3_isPicked_13 : decode cX3_isPicked 13 = .ok (.if_icmp .ge 21, 3) := by decide +kernel
theorem dX3_isPicked_16 : decode cX3_isPicked 16 = .ok (.aload_n 0, 1) := by decide +kernel
theorem dX3_isPicked_17 : decode cX3_isPicked 17 = .ok (.getfield 15, 3) := by decide +kernel
theorem dX3_isPicked_20 : decode cX3_isPicked 20 = .ok (.iload_n 2, 1) := by decide +kernel
theorem dX3_isPicked_21 : decode cX3_isPicked 21 = .ok (.aaload, 1) := by decide +kernel
theorem dX3_isPicked_22 : decode cX3_isPicked 22 = .ok (.aload_n 1, 1) := by decide +kernel
theorem dX3_isPicked_23 : decode cX3_isPicked 23 = .ok (.if_acmp .ne 5, 3) := by decide +kernel
theorem dX3_isPicked_26 : decode cX3_isPicked 26 = .ok (.iconst 1, 1) := by decide +kernel
theorem dX3_isPicked_27 : decode cX3_isPicked 27 = .ok (.ireturn, 1) := by decide +kernel
theorem dX3_isPicked_28 : decode cX3_isPicked 28 = .ok (.iinc 2 1, 3) := by decide +kernel
theorem dX3_isPicked_31 : decode cX3_isPicked 31 = .ok (.goto (-29), 3) := by decide +kernel
theorem dX3_isPicked_34 : decode cX3_isPicked 34 = .ok (.iconst 0, 1) := by decide +kernel
theorem dX3_isPicked_35 : decode cX3_isPicked 35 = .ok (.ireturn, 1) := by decide +kernel
theorem dX3_drop_0 : decode cX3_drop 0 = .ok (.aload_n 0, 1) := by decide +kernel
theorem dX3_drop_1 : decode cX3_drop 1 = .ok (.getfield 77, 3) := by decide +kernel
theorem dX3_drop_4 : decode cX3_drop 4 = .ok (.istore_n 1, 1) := by decide +kernel
theorem dX3_drop_5 : decode cX3_drop 5 = .ok (.aload_n 0, 1) := by decide +kernel
theorem dX3_drop_6 : decode cX3_drop 6 = .ok (.iconst 0, 1) := by decide +kernel
theorem dX3_drop_7 : decode cX3_drop 7 = .ok (.putfield 77, 3) := by decide +kernel
theorem dX3_drop_10 : decode cX3_drop 10 = .ok (.iload_n 1, 1) := by decide +kernel
theorem dX3_drop_11 : decode cX3_drop 11 = .ok (.ireturn, 1) := by decide +kernel
theorem dX3_lay_0 : decode cX3_lay 0 = .ok (.iload_n 1, 1) := by decide +kernel
theorem dX3_lay_1 : decode cX3_lay 1 = .ok (.iconst 1, 1) := by decide +kernel
theorem dX3_lay_2 : decode cX3_lay 2 = .ok (.if_icmp .lt 18, 3) := by decide +kernel
theorem dX3_lay_5 : decode cX3_lay 5 = .ok (.iload_n 1, 1) := by decide +kernel
theorem dX3_lay_6 : decode cX3_lay 6 = .ok (.iconst 3, 1) := by decide +kernel
theorem dX3_lay_7 : decode cX3_lay 7 = .ok (.if_icmp .gt 13, 3) := by decide +kernel
theorem dX3_lay_10 : decode cX3_lay 10 = .ok (.iload_n 2, 1) := by decide +kernel
theorem dX3_lay_11 : decode cX3_lay 11 = .ok (.iconst 1, 1) := by decide +kernel
theorem dX3_lay_12 : decode cX3_lay 12 = .ok (.if_icmp .lt 8, 3) := by decide +kernel
theorem dX3_lay_15 : decode cX3_lay 15 = .ok (.iload_n 2, 1) := by decide +kernel
theorem dX3_lay_16 : decode cX3_lay 16 = .ok (.iconst 2, 1) := by decide +kernel
theorem dX3_lay_17 : decode cX3_lay 17 = .ok (.if_icmp .le 6, 3) := by decide +kernel
theorem dX3_lay_20 : decode cX3_lay 20 = .ok (.bipush (-2), 2) := by decide +kernel
theorem dX3_lay_22 : decode cX3_lay 22 = .ok (.ireturn, 1) := by decide +kernel
theorem dX3_lay_23 : decode cX3_lay 23 = .ok (.iload_n 3, 1) := by decide +kernel
theorem dX3_lay_24 : decode cX3_lay 24 = .ok (.ifCond .lt 19, 3) := by decide +kernel
theorem dX3_lay_27 : decode cX3_lay 27 = .ok (.iload_n 3, 1) := by decide +kernel
theorem dX3_lay_28 : decode cX3_lay 28 = .ok (.sipush 400, 3) := by decide +kernel
theorem dX3_lay_31 : decode cX3_lay 31 = .ok (.if_icmp .gt 12, 3) := by decide +kernel
theorem dX3_lay_34 : decode cX3_lay 34 = .ok (.aload_n 0, 1) := by decide +kernel
theorem dX3_lay_35 : decode cX3_lay 35 = .ok (.getfield 40, 3) := by decide +kernel
theorem dX3_lay_38 : decode cX3_lay 38 = .ok (.bipush 120, 2) := by decide +kernel
theorem dX3_lay_40 : decode cX3_lay 40 = .ok (.if_icmp .lt 6, 3) := by decide +kernel
theorem dX3_lay_43 : decode cX3_lay 43 = .ok (.bipush (-2), 2) := by decide +kernel
theorem dX3_lay_45 : decode cX3_lay 45 = .ok (.ireturn, 1) := by decide +kernel
theorem dX3_lay_46 : decode cX3_lay 46 = .ok (.iload_n 1, 1) := by decide +kernel
theorem dX3_lay_47 : decode cX3_lay 47 = .ok (.aload_n 0, 1) := by decide +kernel
theorem dX3_lay_48 : decode cX3_lay 48 = .ok (.getfield 77, 3) := by decide +kernel
theorem dX3_lay_51 : decode cX3_lay 51 = .ok (.invokestatic 80, 3) := by decide +kernel
theorem dX3_lay_54 : decode cX3_lay 54 = .ok (.ifCond .eq 12, 3) := by decide +kernel
theorem dX3_lay_57 : decode cX3_lay 57 = .ok (.aload_n 0, 1) := by decide +kernel
theorem dX3_lay_58 : decode cX3_lay 58 = .ok (.iload_n 1, 1) := by decide +kernel
theorem dX3_lay_59 : decode cX3_lay 59 = .ok (.iload_n 2, 1) := by decide +kernel
theorem dX3_lay_60 : decode cX3_lay 60 = .ok (.invokevirtual 84, 3) := by decide +kernel
theorem dX3_lay_63 : decode cX3_lay 63 = .ok (.ifCond .ne 6, 3) := by decide +kernel
theorem dX3_lay_66 : decode cX3_lay 66 = .ok (.bipush (-2), 2) := by decide +kernel
theorem dX3_lay_68 : decode cX3_lay 68 = .ok (.ireturn, 1) := by decide +kernel
theorem dX3_lay_69 : decode cX3_lay 69 = .ok (.aload_n 0, 1) := by decide +kernel
theorem dX3_lay_70 : decode cX3_lay 70 = .ok (.invokevirtual 87, 3) := by decide +kernel
theorem dX3_lay_73 : decode cX3_lay 73 = .ok (.sipush 1000, 3) := by decide +kernel
theorem dX3_lay_76 : decode cX3_lay 76 = .ok (.iload_n 3, 1) := by decide +kernel
theorem dX3_lay_77 : decode cX3_lay 77 = .ok (.isub, 1) := by decide +kernel
theorem dX3_lay_78 : decode cX3_lay 78 = .ok (.imul, 1) := by decide +kernel
theorem dX3_lay_79 : decode cX3_lay 79 = .ok (.sipush 1000, 3) := by decide +kernel
theorem dX3_lay_82 : decode cX3_lay 82 = .ok (.idiv, 1) := by decide +kernel
theorem dX3_lay_83 : decode cX3_lay 83 = .ok (.istore 4, 2) := by decide +kernel
theorem dX3_lay_85 : decode cX3_lay 85 = .ok (.iload 4, 2) := by decide +kernel
theorem dX3_lay_87 : decode cX3_lay 87 = .ok (.iconst 1, 1) := by decide +kernel
theorem dX3_lay_88 : decode cX3_lay 88 = .ok (.if_icmp .ge 6, 3) := by decide +kernel
theorem dX3_lay_91 : decode cX3_lay 91 = .ok (.bipush (-2), 2) := by decide +kernel
theorem dX3_lay_93 : decode cX3_lay 93 = .ok (.ireturn, 1) := by decide +kernel
theorem dX3_lay_94 : decode cX3_lay 94 = .ok (.new 9, 3) := by decide +kernel
theorem dX3_lay_97 : decode cX3_lay 97 = .ok (.dup, 1) := by decide +kernel
theorem dX3_lay_98 : decode cX3_lay 98 = .ok (.aload_n 0, 1) := by decide +kernel
theorem dX3_lay_99 : decode cX3_lay 99 = .ok (.getfield 40, 3) := by decide +kernel
theorem dX3_lay_102 : decode cX3_lay 102 = .ok (.iload_n 1, 1) := by decide +kernel
theorem dX3_lay_103 : decode cX3_lay 103 = .ok (.iload 4, 2) := by decide +kernel
theorem dX3_lay_105 : decode cX3_lay 105 = .ok (.iload_n 2, 1) := by decide +kernel
theorem dX3_lay_106 : decode cX3_lay 106 = .ok (.aload_n 0, 1) := by decide +kernel
theorem dX3_lay_107 : decode cX3_lay 107 = .ok (.invokevirtual 91, 3) := by decide +kernel
theorem dX3_lay_110 : decode cX3_lay 110 = .ok (.invokespecial 45, 3) := by decide +kernel
theorem dX3_lay_113 : decode cX3_lay 113 = .ok (.astore 5, 2) := by decide +kernel
theorem dX3_lay_115 : decode cX3_lay 115 = .ok (.aload 5, 2) := by decide +kernel
theorem dX3_lay_117 : decode cX3_lay 117 = .ok (.invokestatic 95, 3) := by decide +kernel
theorem dX3_lay_120 : decode cX3_lay 120 = .ok (.iload_n 1, 1) := by decide +kernel
theorem dX3_lay_121 : decode cX3_lay 121 = .ok (.iconst 3, 1) := by decide +kernel
theorem dX3_lay_122 : decode cX3_lay 122 = .ok (.if_icmp .ne 15, 3) := by decide +kernel
theorem dX3_lay_125 : decode cX3_lay 125 = .ok (.aload 5, 2) := by decide +kernel
theorem dX3_lay_127 : decode cX3_lay 127 = .ok (.dup, 1) := by decide +kernel
theorem dX3_lay_128 : decode cX3_lay 128 = .ok (.getfield 53, 3) := by decide +kernel
theorem dX3_lay_131 : decode cX3_lay 131 = .ok (.iload 4, 2) := by decide +kernel
theorem dX3_lay_133 : decode cX3_lay 133 = .ok (.iadd, 1) := by decide +kernel
theorem dX3_lay_134 : decode cX3_lay 134 = .ok (.putfield 53, 3) := by decide +kernel
theorem dX3_lay_137 : decode cX3_lay 137 = .ok (.aload_n 0, 1) := by decide +kernel
theorem dX3_lay_138 : decode cX3_lay 138 = .ok (.iconst 0, 1) := by decide +kernel
theorem dX3_lay_139 : decode cX3_lay 139 = .ok (.putfield 77, 3) := by decide +kernel
theorem dX3_lay_142 : decode cX3_lay 142 = .ok (.aload_n 0, 1) := by decide +kernel
theorem dX3_lay_143 : decode cX3_lay 143 = .ok (.aload 5, 2) := by decide +kernel
theorem dX3_lay_145 : decode cX3_lay 145 = .ok (.invokevirtual 56, 3) := by decide +kernel
theorem dX3_lay_148 : decode cX3_lay 148 = .ok (.ireturn, 1) := by decide +kernel
theorem dX3_canHold_0 : decode cX3_canHold 0 = .ok (.iload_n 0, 1) := by decide +kernel
theorem dX3_canHold_1 : decode cX3_canHold 1 = .ok (.iconst 1, 1) := by decide +kernel
theorem dX3_canHold_2 : decode cX3_canHold 2 = .ok (.if_icmp .ne 20, 3) := by decide +kernel
theorem dX3_canHold_5 : decode cX3_canHold 5 = .ok (.iload_n 1, 1) := by decide +kernel
theorem dX3_canHold_6 : decode cX3_canHold 6 = .ok (.iconst 2, 1) := by decide +kernel
theorem dX3_canHold_7 : decode cX3_canHold 7 = .ok (.if_icmp .lt 13, 3) := by decide +kernel
theorem dX3_canHold_10 : decode cX3_canHold 10 = .ok (.iload_n 1, 1) := by decide +kernel
theorem dX3_canHold_11 : decode cX3_canHold 11 = .ok (.bipush 9, 2) := by decide +kernel
theorem dX3_canHold_13 : decode cX3_canHold 13 = .ok (.if_icmp .gt 7, 3) := by decide +kernel
theorem dX3_canHold_16 : decode cX3_canHold 16 = .ok (.iconst 1, 1) := by decide +kernel
theorem dX3_canHold_17 : decode cX3_canHold 17 = .ok (.goto 4, 3) := by decide +kernel
theorem dX3_canHold_20 : decode cX3_canHold 20 = .ok (.iconst 0, 1) := by decide +kernel
theorem dX3_canHold_21 : decode cX3_canHold 21 = .ok (.ireturn, 1) := by decide +kernel
theorem dX3_canHold_22 : decode cX3_canHold 22 = .ok (.iload_n 0, 1) := by decide +kernel
theorem dX3_canHold_23 : decode cX3_canHold 23 = .ok (.iconst 2, 1) := by decide +kernel
theorem dX3_canHold_24 : decode cX3_canHold 24 = .ok (.if_icmp .ne 19, 3) := by decide +kernel
theorem dX3_canHold_27 : decode cX3_canHold 27 = .ok (.iload_n 1, 1) := by decide +kernel
theorem dX3_canHold_28 : decode cX3_canHold 28 = .ok (.iconst 3, 1) := by decide +kernel
theorem dX3_canHold_29 : decode cX3_canHold 29 = .ok (.if_icmp .eq 8, 3) := by decide +kernel
theorem dX3_canHold_32 : decode cX3_canHold 32 = .ok (.iload_n 1, 1) := by decide +kernel
theorem dX3_canHold_33 : decode cX3_canHold 33 = .ok (.iconst 4, 1) := by decide +kernel
theorem dX3_canHold_34 : decode cX3_canHold 34 = .ok (.if_icmp .ne 7, 3) := by decide +kernel
theorem dX3_canHold_37 : decode cX3_canHold 37 = .ok (.iconst 1, 1) := by decide +kernel
theorem dX3_canHold_38 : decode cX3_canHold 38 = .ok (.goto 4, 3) := by decide +kernel
theorem dX3_canHold_41 : decode cX3_canHold 41 = .ok (.iconst 0, 1) := by decide +kernel
theorem dX3_canHold_42 : decode cX3_canHold 42 = .ok (.ireturn, 1) := by decide +kernel
theorem dX3_canHold_43 : decode cX3_canHold 43 = .ok (.iload_n 0, 1) := by decide +kernel
theorem dX3_canHold_44 : decode cX3_canHold 44 = .ok (.iconst 3, 1) := by decide +kernel
theorem dX3_canHold_45 : decode cX3_canHold 45 = .ok (.if_icmp .ne 12, 3) := by decide +kernel
theorem dX3_canHold_48 : decode cX3_canHold 48 = .ok (.iload_n 1, 1) := by decide +kernel
theorem dX3_canHold_49 : decode cX3_canHold 49 = .ok (.iconst 3, 1) := by decide +kernel
theorem dX3_canHold_50 : decode cX3_canHold 50 = .ok (.if_icmp .ne 7, 3) := by decide +kernel
theorem dX3_canHold_53 : decode cX3_canHold 53 = .ok (.iconst 1, 1) := by decide +kernel
theorem dX3_canHold_54 : decode cX3_canHold 54 = .ok (.goto 4, 3) := by decide +kernel
theorem dX3_canHold_57 : decode cX3_canHold 57 = .ok (.iconst 0, 1) := by decide +kernel
theorem dX3_canHold_58 : decode cX3_canHold 58 = .ok (.ireturn, 1) := by decide +kernel
theorem dX3_pickedFit_0 : decode cX3_pickedFit 0 = .ok (.iconst 0, 1) := by decide +kernel
theorem dX3_pickedFit_1 : decode cX3_pickedFit 1 = .ok (.istore_n 3, 1) := by decide +kernel
theorem dX3_pickedFit_2 : decode cX3_pickedFit 2 = .ok (.iload_n 3, 1) := by decide +kernel
theorem dX3_pickedFit_3 : decode cX3_pickedFit 3 = .ok (.aload_n 0, 1) := by decide +kernel
theorem dX3_pickedFit_4 : decode cX3_pickedFit 4 = .ok (.getfield 77, 3) := by decide +kernel
theorem dX3_pickedFit_7 : decode cX3_pickedFit 7 = .ok (.if_icmp .ge 48, 3) := by decide +kernel
theorem dX3_pickedFit_10 : decode cX3_pickedFit 10 = .ok (.iload_n 3, 1) := by decide +kernel
theorem dX3_pickedFit_11 : decode cX3_pickedFit 11 = .ok (.bipush 9, 2) := by decide +kernel
theorem dX3_pickedFit_13 : decode cX3_pickedFit 13 = .ok (.if_icmp .ge 42, 3) := by decide +kernel
theorem dX3_pickedFit_16 : decode cX3_pickedFit 16 = .ok (.aload_n 0, 1) := by decide +kernel
theorem dX3_pickedFit_17 : decode cX3_pickedFit 17 = .ok (.getfield 15, 3) := by decide +kernel
theorem dX3_pickedFit_20 : decode cX3_pickedFit 20 = .ok (.iload_n 3, 1) := by decide +kernel
theorem dX3_pickedFit_21 : decode cX3_pickedFit 21 = .ok (.aaload, 1) := by decide +kernel
theorem dX3_pickedFit_22 : decode cX3_pickedFit 22 = .ok (.astore 4, 2) := by decide +kernel
theorem dX3_pickedFit_24 : decode cX3_pickedFit 24 = .ok (.aload 4, 2) := by decide +kernel
theorem dX3_pickedFit_26 : decode cX3_pickedFit 26 = .ok (.ifnull 21, 3) := by decide +kernel
theorem dX3_pickedFit_29 : decode cX3_pickedFit 29 = .ok (.aload 4, 2) := by decide +kernel
theorem dX3_pickedFit_31 : decode cX3_pickedFit 31 = .ok (.getfield 67, 3) := by decide +kernel
theorem dX3_pickedFit_34 : decode cX3_pickedFit 34 = .ok (.ifCond .ne 13, 3) := by decide +kernel
theorem dX3_pickedFit_37 : decode cX3_pickedFit 37 = .ok (.iload_n 1, 1) := by decide +kernel
theorem dX3_pickedFit_38 : decode cX3_pickedFit 38 = .ok (.iload_n 2, 1) := by decide +kernel
theorem dX3_pickedFit_39 : decode cX3_pickedFit 39 = .ok (.aload 4, 2) := by decide +kernel
theorem dX3_pickedFit_41 : decode cX3_pickedFit 41 = .ok (.invokestatic 99, 3) := by decide +kernel
theorem dX3_pickedFit_44 : decode cX3_pickedFit 44 = .ok (.ifCond .ne 5, 3) := by decide +kernel
theorem dX3_pickedFit_47 : decode cX3_pickedFit 47 = .ok (.iconst 0, 1) := by decide +kernel
theorem dX3_pickedFit_48 : decode cX3_pickedFit 48 = .ok (.ireturn, 1) := by decide +kernel
theorem dX3_pickedFit_49 : decode cX3_pickedFit 49 = .ok (.iinc 3 1, 3) := by decide +kernel
theorem dX3_pickedFit_52 : decode cX3_pickedFit 52 = .ok (.goto (-50), 3) := by decide +kernel
theorem dX3_pickedFit_55 : decode cX3_pickedFit 55 = .ok (.iconst 1, 1) := by decide +kernel
theorem dX3_pickedFit_56 : decode cX3_pickedFit 56 = .ok (.ireturn, 1) := by decide +kernel
theorem dX3_canBePart_0 : decode cX3_canBePart 0 = .ok (.iload_n 0, 1) := by decide +kernel
theorem dX3_canBePart_1 : decode cX3_canBePart 1 = .ok (.iconst 1, 1) := by decide +kernel
theorem dX3_canBePart_2 : decode cX3_canBePart 2 = .ok (.if_icmp .ne 24, 3) := by decide +kernel
theorem dX3_canBePart_5 : decode cX3_canBePart 5 = .ok (.aload_n 2, 1) := by decide +kernel
theorem dX3_canBePart_6 : decode cX3_canBePart 6 = .ok (.getfield 103, 3) := by decide +kernel
theorem dX3_canBePart_9 : decode cX3_canBePart 9 = .ok (.ifCond .eq 11, 3) := by decide +kernel
theorem dX3_canBePart_12 : decode cX3_canBePart 12 = .ok (.aload_n 2, 1) := by decide +kernel
theorem dX3_canBePart_13 : decode cX3_canBePart 13 = .ok (.getfield 103, 3) := by decide +kernel
theorem dX3_canBePart_16 : decode cX3_canBePart 16 = .ok (.iconst 4, 1) := by decide +kernel
theorem dX3_canBePart_17 : decode cX3_canBePart 17 = .ok (.if_icmp .ne 7, 3) := by decide +kernel
theorem dX3_canBePart_20 : decode cX3_canBePart 20 = .ok (.iconst 1, 1) := by decide +kernel
theorem dX3_canBePart_21 : decode cX3_canBePart 21 = .ok (.goto 4, 3) := by decide +kernel
theorem dX3_canBePart_24 : decode cX3_canBePart 24 = .ok (.iconst 0, 1) := by decide +kernel
theorem dX3_canBePart_25 : decode cX3_canBePart 25 = .ok (.ireturn, 1) := by decide +kernel
theorem dX3_canBePart_26 : decode cX3_canBePart 26 = .ok (.aload_n 2, 1) := by decide +kernel
theorem dX3_canBePart_27 : decode cX3_canBePart 27 = .ok (.getfield 106, 3) := by decide +kernel
theorem dX3_canBePart_30 : decode cX3_canBePart 30 = .ok (.iload_n 1, 1) := by decide +kernel
theorem dX3_canBePart_31 : decode cX3_canBePart 31 = .ok (.invokestatic 109, 3) := by decide +kernel
theorem dX3_canBePart_34 : decode cX3_canBePart 34 = .ok (.if_icmp .eq 5, 3) := by decide +kernel
theorem dX3_canBePart_37 : decode cX3_canBePart 37 = .ok (.iconst 0, 1) := by decide +kernel
theorem dX3_canBePart_38 : decode cX3_canBePart 38 = .ok (.ireturn, 1) := by decide +kernel
theorem dX3_canBePart_39 : decode cX3_canBePart 39 = .ok (.iload_n 0, 1) := by decide +kernel
theorem dX3_canBePart_40 : decode cX3_canBePart 40 = .ok (.iconst 2, 1) := by decide +kernel
theorem dX3_canBePart_41 : decode cX3_canBePart 41 = .ok (.if_icmp .ne 17, 3) := by decide +kernel
theorem dX3_canBePart_44 : decode cX3_canBePart 44 = .ok (.aload_n 2, 1) := by decide +kernel
theorem dX3_canBePart_45 : decode cX3_canBePart 45 = .ok (.getfield 103, 3) := by decide +kernel
theorem dX3_canBePart_48 : decode cX3_canBePart 48 = .ok (.iconst 1, 1) := by decide +kernel
theorem dX3_canBePart_49 : decode cX3_canBePart 49 = .ok (.if_icmp .ne 7, 3) := by decide +kernel
theorem dX3_canBePart_52 : decode cX3_canBePart 52 = .ok (.iconst 1, 1) := by decide +kernel
theorem dX3_canBePart_53 : decode cX3_canBePart 53 = .ok (.goto 4, 3) := by decide +kernel
theorem dX3_canBePart_56 : decode cX3_canBePart 56 = .ok (.iconst 0, 1) := by decide +kernel
theorem dX3_canBePart_57 : decode cX3_canBePart 57 = .ok (.ireturn, 1) := by decide +kernel
theorem dX3_canBePart_58 : decode cX3_canBePart 58 = .ok (.iload_n 0, 1) := by decide +kernel
theorem dX3_canBePart_59 : decode cX3_canBePart 59 = .ok (.iconst 3, 1) := by decide +kernel
theorem dX3_canBePart_60 : decode cX3_canBePart 60 = .ok (.if_icmp .ne 23, 3) := by decide +kernel
theorem dX3_canBePart_63 : decode cX3_canBePart 63 = .ok (.aload_n 2, 1) := by decide +kernel
theorem dX3_canBePart_64 : decode cX3_canBePart 64 = .ok (.getfield 103, 3) := by decide +kernel
theorem dX3_canBePart_67 : decode cX3_canBePart 67 = .ok (.iconst 2, 1) := by decide +kernel
theorem dX3_canBePart_68 : decode cX3_canBePart 68 = .ok (.if_icmp .eq 11, 3) := by decide +kernel
theorem dX3_canBePart_71 : decode cX3_canBePart 71 = .ok (.aload_n 2, 1) := by decide +kernel
theorem dX3_canBePart_72 : decode cX3_canBePart 72 = .ok (.getfield 103, 3) := by decide +kernel
theorem dX3_canBePart_75 : decode cX3_canBePart 75 = .ok (.iconst 5, 1) := by decide +kernel
theorem dX3_canBePart_76 : decode cX3_canBePart 76 = .ok (.if_icmp .ne 7, 3) := by decide +kernel
theorem dX3_canBePart_79 : decode cX3_canBePart 79 = .ok (.iconst 1, 1) := by decide +kernel
theorem dX3_canBePart_80 : decode cX3_canBePart 80 = .ok (.goto 4, 3) := by decide +kernel
theorem dX3_canBePart_83 : decode cX3_canBePart 83 = .ok (.iconst 0, 1) := by decide +kernel
theorem dX3_canBePart_84 : decode cX3_canBePart 84 = .ok (.ireturn, 1) := by decide +kernel
theorem dX3_otherTwist_0 : decode cX3_otherTwist 0 = .ok (.iload_n 0, 1) := by decide +kernel
theorem dX3_otherTwist_1 : decode cX3_otherTwist 1 = .ok (.iconst 1, 1) := by decide +kernel
theorem dX3_otherTwist_2 : decode cX3_otherTwist 2 = .ok (.if_icmp .ne 7, 3) := by decide +kernel
theorem dX3_otherTwist_5 : decode cX3_otherTwist 5 = .ok (.iconst 2, 1) := by decide +kernel
theorem dX3_otherTwist_6 : decode cX3_otherTwist 6 = .ok (.goto 4, 3) := by decide +kernel
theorem dX3_otherTwist_9 : decode cX3_otherTwist 9 = .ok (.iconst 1, 1) := by decide +kernel
theorem dX3_otherTwist_10 : decode cX3_otherTwist 10 = .ok (.ireturn, 1) := by decide +kernel
theorem dX3_shortestPicked_0 : decode cX3_shortestPicked 0 = .ok (.sipush 2000, 3) := by decide +kernel
theorem dX3_shortestPicked_3 : decode cX3_shortestPicked 3 = .ok (.istore_n 1, 1) := by decide +kernel
theorem dX3_shortestPicked_4 : decode cX3_shortestPicked 4 = .ok (.iconst 0, 1) := by decide +kernel
theorem dX3_shortestPicked_5 : decode cX3_shortestPicked 5 = .ok (.istore_n 2, 1) := by decide +kernel
theorem dX3_shortestPicked_6 : decode cX3_shortestPicked 6 = .ok (.iload_n 2, 1) := by decide +kernel
theorem dX3_shortestPicked_7 : decode cX3_shortestPicked 7 = .ok (.aload_n 0, 1) := by decide +kernel
theorem dX3_shortestPicked_8 : decode cX3_shortestPicked 8 = .ok (.getfield 77, 3) := by decide +kernel
theorem dX3_shortestPicked_11 : decode cX3_shortestPicked 11 = .ok (.if_icmp .ge 38, 3) := by decide +kernel
theorem dX3_shortestPicked_14 : decode cX3_shortestPicked 14 = .ok (.iload_n 2, 1) := by decide +kernel
theorem dX3_shortestPicked_15 : decode cX3_shortestPicked 15 = .ok (.bipush 9, 2) := by decide +kernel
theorem dX3_shortestPicked_17 : decode cX3_shortestPicked 17 = .ok (.if_icmp .ge 32, 3) := by decide +kernel
theorem dX3_shortestPicked_20 : decode cX3_shortestPicked 20 = .ok (.aload_n 0, 1) := by decide +kernel
theorem dX3_shortestPicked_21 : decode cX3_shortestPicked 21 = .ok (.getfield 15, 3) := by decide +kernel
theorem dX3_shortestPicked_24 : decode cX3_shortestPicked 24 = .ok (.iload_n 2, 1) := by decide +kernel
theorem dX3_shortestPicked_25 : decode cX3_shortestPicked 25 = .ok (.aaload, 1) := by decide +kernel
theorem dX3_shortestPicked_26 : decode cX3_shortestPicked 26 = .ok (.ifnull 17, 3) := by decide +kernel
theorem dX3_shortestPicked_29 : decode cX3_shortestPicked 29 = .ok (.iload_n 1, 1) := by decide +kernel
theorem dX3_shortestPicked_30 : decode cX3_shortestPicked 30 = .ok (.aload_n 0, 1) := by decide +kernel
theorem dX3_shortestPicked_31 : decode cX3_shortestPicked 31 = .ok (.getfield 15, 3) := by decide +kernel
theorem dX3_shortestPicked_34 : decode cX3_shortestPicked 34 = .ok (.iload_n 2, 1) := by decide +kernel
theorem dX3_shortestPicked_35 : decode cX3_shortestPicked 35 = .ok (.aaload, 1) := by decide +kernel
theorem dX3_shortestPicked_36 : decode cX3_shortestPicked 36 = .ok (.getfield 113, 3) := by decide +kernel
theorem dX3_shortestPicked_39 : decode cX3_shortestPicked 39 = .ok (.invokestatic 116, 3) := by decide +kernel
theorem dX3_shortestPicked_42 : decode cX3_shortestPicked 42 = .ok (.istore_n 1, 1) := by decide +kernel
theorem dX3_shortestPicked_43 : decode cX3_shortestPicked 43 = .ok (.iinc 2 1, 3) := by decide +kernel
theorem dX3_shortestPicked_46 : decode cX3_shortestPicked 46 = .ok (.goto (-40), 3) := by decide +kernel
theorem dX3_shortestPicked_49 : decode cX3_shortestPicked 49 = .ok (.iload_n 1, 1) := by decide +kernel
theorem dX3_shortestPicked_50 : decode cX3_shortestPicked 50 = .ok (.ireturn, 1) := by decide +kernel
theorem dX3_pickedParts_0 : decode cX3_pickedParts 0 = .ok (.iconst 0, 1) := by decide +kernel
theorem dX3_pickedParts_1 : decode cX3_pickedParts 1 = .ok (.aload_n 0, 1) := by decide +kernel
theorem dX3_pickedParts_2 : decode cX3_pickedParts 2 = .ok (.getfield 77, 3) := by decide +kernel
theorem dX3_pickedParts_5 : decode cX3_pickedParts 5 = .ok (.bipush 9, 2) := by decide +kernel
theorem dX3_pickedParts_7 : decode cX3_pickedParts 7 = .ok (.invokestatic 116, 3) := by decide +kernel
theorem dX3_pickedParts_10 : decode cX3_pickedParts 10 = .ok (.invokestatic 122, 3) := by decide +kernel
theorem dX3_pickedParts_13 : decode cX3_pickedParts 13 = .ok (.istore_n 1, 1) := by decide +kernel
theorem dX3_pickedParts_14 : decode cX3_pickedParts 14 = .ok (.iload_n 1, 1) := by decide +kernel
theorem dX3_pickedParts_15 : decode cX3_pickedParts 15 = .ok (.anewarray 9, 3) := by decide +kernel
theorem dX3_pickedParts_18 : decode cX3_pickedParts 18 = .ok (.astore_n 2, 1) := by decide +kernel
theorem dX3_pickedParts_19 : decode cX3_pickedParts 19 = .ok (.iconst 0, 1) := by decide +kernel
theorem dX3_pickedParts_20 : decode cX3_pickedParts 20 = .ok (.istore_n 3, 1) := by decide +kernel
theorem dX3_pickedParts_21 : decode cX3_pickedParts 21 = .ok (.iload_n 3, 1) := by decide +kernel
theorem dX3_pickedParts_22 : decode cX3_pickedParts 22 = .ok (.iload_n 1, 1) := by decide +kernel
theorem dX3_pickedParts_23 : decode cX3_pickedParts 23 = .ok (.if_icmp .ge 18, 3) := by decide +kernel
theorem dX3_pickedParts_26 : decode cX3_pickedParts 26 = .ok (.aload_n 2, 1) := by decide +kernel
theorem dX3_pickedParts_27 : decode cX3_pickedParts 27 = .ok (.iload_n 3, 1) := by decide +kernel
theorem dX3_pickedParts_28 : decode cX3_pickedParts 28 = .ok (.aload_n 0, 1) := by decide +kernel
theorem dX3_pickedParts_29 : decode cX3_pickedParts 29 = .ok (.getfield 15, 3) := by decide +kernel
theorem dX3_pickedParts_32 : decode cX3_pickedParts 32 = .ok (.iload_n 3, 1) := by decide +kernel
theorem dX3_pickedParts_33 : decode cX3_pickedParts 33 = .ok (.aaload, 1) := by decide +kernel
theorem dX3_pickedParts_34 : decode cX3_pickedParts 34 = .ok (.aastore, 1) := by decide +kernel
theorem dX3_pickedParts_35 : decode cX3_pickedParts 35 = .ok (.iinc 3 1, 3) := by decide +kernel
theorem dX3_pickedParts_38 : decode cX3_pickedParts 38 = .ok (.goto (-17), 3) := by decide +kernel
theorem dX3_pickedParts_41 : decode cX3_pickedParts 41 = .ok (.aload_n 2, 1) := by decide +kernel
theorem dX3_pickedParts_42 : decode cX3_pickedParts 42 = .ok (.areturn, 1) := by decide +kernel
theorem dX3_takeParts_0 : decode cX3_takeParts 0 = .ok (.iconst 0, 1) := by decide +kernel
theorem dX3_takeParts_1 : decode cX3_takeParts 1 = .ok (.istore_n 1, 1) := by decide +kernel
theorem dX3_takeParts_2 : decode cX3_takeParts 2 = .ok (.iload_n 1, 1) := by decide +kernel
theorem dX3_takeParts_3 : decode cX3_takeParts 3 = .ok (.aload_n 0, 1) := by decide +kernel
theorem dX3_takeParts_4 : decode cX3_takeParts 4 = .ok (.getfield 125, 3) := by decide +kernel
theorem dX3_takeParts_7 : decode cX3_takeParts 7 = .ok (.arraylength, 1) := by decide +kernel
theorem dX3_takeParts_8 : decode cX3_takeParts 8 = .ok (.if_icmp .ge 46, 3) := by decide +kernel
theorem dX3_takeParts_11 : decode cX3_takeParts 11 = .ok (.aload_n 0, 1) := by decide +kernel
theorem dX3_takeParts_12 : decode cX3_takeParts 12 = .ok (.getfield 125, 3) := by decide +kernel
theorem dX3_takeParts_15 : decode cX3_takeParts 15 = .ok (.iload_n 1, 1) := by decide +kernel
theorem dX3_takeParts_16 : decode cX3_takeParts 16 = .ok (.aaload, 1) := by decide +kernel
theorem dX3_takeParts_17 : decode cX3_takeParts 17 = .ok (.astore_n 2, 1) := by decide +kernel
theorem dX3_takeParts_18 : decode cX3_takeParts 18 = .ok (.aload_n 2, 1) := by decide +kernel
theorem dX3_takeParts_19 : decode cX3_takeParts 19 = .ok (.ifnull 29, 3) := by decide +kernel
theorem dX3_takeParts_22 : decode cX3_takeParts 22 = .ok (.aload_n 2, 1) := by decide +kernel
theorem dX3_takeParts_23 : decode cX3_takeParts 23 = .ok (.iconst 1, 1) := by decide +kernel
theorem dX3_takeParts_24 : decode cX3_takeParts 24 = .ok (.putfield 67, 3) := by decide +kernel
theorem dX3_takeParts_27 : decode cX3_takeParts 27 = .ok (.aload_n 2, 1) := by decide +kernel
theorem dX3_takeParts_28 : decode cX3_takeParts 28 = .ok (.aload_n 0, 1) := by decide +kernel
theorem dX3_takeParts_29 : decode cX3_takeParts 29 = .ok (.getfield 60, 3) := by decide +kernel
theorem dX3_takeParts_32 : decode cX3_takeParts 32 = .ok (.putfield 128, 3) := by decide +kernel
theorem dX3_takeParts_35 : decode cX3_takeParts 35 = .ok (.aload_n 0, 1) := by decide +kernel
theorem dX3_takeParts_36 : decode cX3_takeParts 36 = .ok (.dup, 1) := by decide +kernel
theorem dX3_takeParts_37 : decode cX3_takeParts 37 = .ok (.getfield 53, 3) := by decide +kernel
theorem dX3_takeParts_40 : decode cX3_takeParts 40 = .ok (.aload_n 2, 1) := by decide +kernel
theorem dX3_takeParts_41 : decode cX3_takeParts 41 = .ok (.getfield 53, 3) := by decide +kernel
theorem dX3_takeParts_44 : decode cX3_takeParts 44 = .ok (.iadd, 1) := by decide +kernel
theorem dX3_takeParts_45 : decode cX3_takeParts 45 = .ok (.putfield 53, 3) := by decide +kernel
theorem dX3_takeParts_48 : decode cX3_takeParts 48 = .ok (.iinc 1 1, 3) := by decide +kernel
theorem dX3_takeParts_51 : decode cX3_takeParts 51 = .ok (.goto (-49), 3) := by decide +kernel
theorem dX3_takeParts_54 : decode cX3_takeParts 54 = .ok (.return_, 1) := by decide +kernel
theorem dX3_splice_0 : decode cX3_splice 0 = .ok (.aload_n 0, 1) := by decide +kernel
theorem dX3_splice_1 : decode cX3_splice 1 = .ok (.iload_n 1, 1) := by decide +kernel
theorem dX3_splice_2 : decode cX3_splice 2 = .ok (.invokevirtual 70, 3) := by decide +kernel
theorem dX3_splice_5 : decode cX3_splice 5 = .ok (.astore 4, 2) := by decide +kernel
theorem dX3_splice_7 : decode cX3_splice 7 = .ok (.aload_n 0, 1) := by decide +kernel
theorem dX3_splice_8 : decode cX3_splice 8 = .ok (.iload_n 2, 1) := by decide +kernel
theorem dX3_splice_9 : decode cX3_splice 9 = .ok (.invokevirtual 70, 3) := by decide +kernel
theorem dX3_splice_12 : decode cX3_splice 12 = .ok (.astore 5, 2) := by decide +kernel
theorem dX3_splice_14 : decode cX3_splice 14 = .ok (.aload 4, 2) := by decide +kernel
theorem dX3_splice_16 : decode cX3_splice 16 = .ok (.ifnull 15, 3) := by decide +kernel
theorem dX3_splice_19 : decode cX3_splice 19 = .ok (.aload 5, 2) := by decide +kernel
theorem dX3_splice_21 : decode cX3_splice 21 = .ok (.ifnull 10, 3) := by decide +kernel
theorem dX3_splice_24 : decode cX3_splice 24 = .ok (.aload 4, 2) := by decide +kernel
theorem dX3_splice_26 : decode cX3_splice 26 = .ok (.aload 5, 2) := by decide +kernel
theorem dX3_splice_28 : decode cX3_splice 28 = .ok (.if_acmp .ne 6, 3) := by decide +kernel
theorem dX3_splice_31 : decode cX3_splice 31 = .ok (.bipush (-2), 2) := by decide +kernel
theorem dX3_splice_33 : decode cX3_splice 33 = .ok (.ireturn, 1) := by decide +kernel
theorem dX3_splice_34 : decode cX3_splice 34 = .ok (.aload 4, 2) := by decide +kernel
theorem dX3_splice_36 : decode cX3_splice 36 = .ok (.invokestatic 131, 3) := by decide +kernel
theorem dX3_splice_39 : decode cX3_splice 39 = .ok (.ifCond .eq 24, 3) := by decide +kernel
theorem dX3_splice_42 : decode cX3_splice 42 = .ok (.aload 5, 2) := by decide +kernel
theorem dX3_splice_44 : decode cX3_splice 44 = .ok (.invokestatic 131, 3) := by decide +kernel
theorem dX3_splice_47 : decode cX3_splice 47 = .ok (.ifCond .eq 16, 3) := by decide +kernel
theorem dX3_splice_50 : decode cX3_splice 50 = .ok (.aload 4, 2) := by decide +kernel
theorem dX3_splice_52 : decode cX3_splice 52 = .ok (.getfield 106, 3) := by decide +kernel
theorem dX3_splice_55 : decode cX3_splice 55 = .ok (.aload 5, 2) := by decide +kernel
theorem dX3_splice_57 : decode cX3_splice 57 = .ok (.getfield 106, 3) := by decide +kernel
theorem dX3_splice_60 : decode cX3_splice 60 = .ok (.if_icmp .eq 6, 3) := by decide +kernel
theorem dX3_splice_63 : decode cX3_splice 63 = .ok (.bipush (-2), 2) := by decide +kernel
theorem dX3_splice_65 : decode cX3_splice 65 = .ok (.ireturn, 1) := by decide +kernel
theorem dX3_splice_66 : decode cX3_splice 66 = .ok (.iload_n 3, 1) := by decide +kernel
theorem dX3_splice_67 : decode cX3_splice 67 = .ok (.iconst 1, 1) := by decide +kernel
theorem dX3_splice_68 : decode cX3_splice 68 = .ok (.if_icmp .lt 20, 3) := by decide +kernel
theorem dX3_splice_71 : decode cX3_splice 71 = .ok (.iload_n 3, 1) := by decide +kernel
theorem dX3_splice_72 : decode cX3_splice 72 = .ok (.aload 4, 2) := by decide +kernel
theorem dX3_splice_74 : decode cX3_splice 74 = .ok (.getfield 113, 3) := by decide +kernel
theorem dX3_splice_77 : decode cX3_splice 77 = .ok (.aload 5, 2) := by decide +kernel
theorem dX3_splice_79 : decode cX3_splice 79 = .ok (.getfield 113, 3) := by decide +kernel
theorem dX3_splice_82 : decode cX3_splice 82 = .ok (.invokestatic 116, 3) := by decide +kernel
theorem dX3_splice_85 : decode cX3_splice 85 = .ok (.if_icmp .le 6, 3) := by decide +kernel
theorem dX3_splice_88 : decode cX3_splice 88 = .ok (.bipush (-2), 2) := by decide +kernel
theorem dX3_splice_90 : decode cX3_splice 90 = .ok (.ireturn, 1) := by decide +kernel
theorem dX3_splice_91 : decode cX3_splice 91 = .ok (.aload 4, 2) := by decide +kernel
theorem dX3_splice_93 : decode cX3_splice 93 = .ok (.getfield 113, 3) := by decide +kernel
theorem dX3_splice_96 : decode cX3_splice 96 = .ok (.aload 5, 2) := by decide +kernel
theorem dX3_splice_98 : decode cX3_splice 98 = .ok (.getfield 113, 3) := by decide +kernel
theorem dX3_splice_101 : decode cX3_splice 101 = .ok (.iadd, 1) := by decide +kernel
theorem dX3_splice_102 : decode cX3_splice 102 = .ok (.iload_n 3, 1) := by decide +kernel
theorem dX3_splice_103 : decode cX3_splice 103 = .ok (.isub, 1) := by decide +kernel
theorem dX3_splice_104 : decode cX3_splice 104 = .ok (.istore 6, 2) := by decide +kernel
theorem dX3_splice_106 : decode cX3_splice 106 = .ok (.iload 6, 2) := by decide +kernel
theorem dX3_splice_108 : decode cX3_splice 108 = .ok (.sipush 2000, 3) := by decide +kernel
theorem dX3_splice_111 : decode cX3_splice 111 = .ok (.if_icmp .gt 12, 3) := by decide +kernel
theorem dX3_splice_114 : decode cX3_splice 114 = .ok (.aload_n 0, 1) := by decide +kernel
theorem dX3_splice_115 : decode cX3_splice 115 = .ok (.getfield 40, 3) := by decide +kernel
theorem dX3_splice_118 : decode cX3_splice 118 = .ok (.bipush 120, 2) := by decide +kernel
theorem dX3_splice_120 : decode cX3_splice 120 = .ok (.if_icmp .lt 6, 3) := by decide +kernel
theorem dX3_splice_123 : decode cX3_splice 123 = .ok (.bipush (-2), 2) := by decide +kernel
theorem dX3_splice_125 : decode cX3_splice 125 = .ok (.ireturn, 1) := by decide +kernel
theorem dX3_splice_126 : decode cX3_splice 126 = .ok (.iconst 2, 1) := by decide +kernel
theorem dX3_splice_127 : decode cX3_splice 127 = .ok (.anewarray 9, 3) := by decide +kernel
theorem dX3_splice_130 : decode cX3_splice 130 = .ok (.dup, 1) := by decide +kernel
theorem dX3_splice_131 : decode cX3_splice 131 = .ok (.iconst 0, 1) := by decide +kernel
theorem dX3_splice_132 : decode cX3_splice 132 = .ok (.aload 4, 2) := by decide +kernel
theorem dX3_splice_134 : decode cX3_splice 134 = .ok (.aastore, 1) := by decide +kernel
theorem dX3_splice_135 : decode cX3_splice 135 = .ok (.dup, 1) := by decide +kernel
theorem dX3_splice_136 : decode cX3_splice 136 = .ok (.iconst 1, 1) := by decide +kernel
theorem dX3_splice_137 : decode cX3_splice 137 = .ok (.aload 5, 2) := by decide +kernel
theorem dX3_splice_139 : decode cX3_splice 139 = .ok (.aastore, 1) := by decide +kernel
theorem dX3_splice_140 : decode cX3_splice 140 = .ok (.astore 7, 2) := by decide +kernel
theorem dX3_splice_142 : decode cX3_splice 142 = .ok (.new 9, 3) := by decide +kernel
theorem dX3_splice_145 : decode cX3_splice 145 = .ok (.dup, 1) := by decide +kernel
theorem dX3_splice_146 : decode cX3_splice 146 = .ok (.aload_n 0, 1) := by decide +kernel
theorem dX3_splice_147 : decode cX3_splice 147 = .ok (.getfield 40, 3) := by decide +kernel
theorem dX3_splice_150 : decode cX3_splice 150 = .ok (.iconst 5, 1) := by decide +kernel
theorem dX3_splice_151 : decode cX3_splice 151 = .ok (.iload 6, 2) := by decide +kernel
theorem dX3_splice_153 : decode cX3_splice 153 = .ok (.aload 4, 2) := by decide +kernel
theorem dX3_splice_155 : decode cX3_splice 155 = .ok (.getfield 106, 3) := by decide +kernel
theorem dX3_splice_158 : decode cX3_splice 158 = .ok (.aload 7, 2) := by decide +kernel
theorem dX3_splice_160 : decode cX3_splice 160 = .ok (.invokespecial 45, 3) := by decide +kernel
theorem dX3_splice_163 : decode cX3_splice 163 = .ok (.astore 8, 2) := by decide +kernel
theorem dX3_splice_165 : decode cX3_splice 165 = .ok (.aload 8, 2) := by decide +kernel
theorem dX3_splice_167 : decode cX3_splice 167 = .ok (.aload 4, 2) := by decide +kernel
theorem dX3_splice_169 : decode cX3_splice 169 = .ok (.getfield 113, 3) := by decide +kernel
theorem dX3_splice_172 : decode cX3_splice 172 = .ok (.iload_n 3, 1) := by decide +kernel
theorem dX3_splice_173 : decode cX3_splice 173 = .ok (.isub, 1) := by decide +kernel
theorem dX3_splice_174 : decode cX3_splice 174 = .ok (.putfield 134, 3) := by decide +kernel
theorem dX3_splice_177 : decode cX3_splice 177 = .ok (.aload 8, 2) := by decide +kernel
theorem dX3_splice_179 : decode cX3_splice 179 = .ok (.invokestatic 95, 3) := by decide +kernel
theorem dX3_splice_182 : decode cX3_splice 182 = .ok (.aload_n 0, 1) := by decide +kernel
theorem dX3_splice_183 : decode cX3_splice 183 = .ok (.aload 8, 2) := by decide +kernel
theorem dX3_splice_185 : decode cX3_splice 185 = .ok (.invokevirtual 56, 3) := by decide +kernel
theorem dX3_splice_188 : decode cX3_splice 188 = .ok (.ireturn, 1) := by decide +kernel
theorem dX3_canBeSpliced_0 : decode cX3_canBeSpliced 0 = .ok (.aload_n 0, 1) := by decide +kernel
theorem dX3_canBeSpliced_1 : decode cX3_canBeSpliced 1 = .ok (.getfield 103, 3) := by decide +kernel
theorem dX3_canBeSpliced_4 : decode cX3_canBeSpliced 4 = .ok (.iconst 2, 1) := by decide +kernel
theorem dX3_canBeSpliced_5 : decode cX3_canBeSpliced 5 = .ok (.if_icmp .eq 19, 3) := by decide +kernel
theorem dX3_canBeSpliced_8 : decode cX3_canBeSpliced 8 = .ok (.aload_n 0, 1) := by decide +kernel
theorem dX3_canBeSpliced_9 : decode cX3_canBeSpliced 9 = .ok (.getfield 103, 3) := by decide +kernel
theorem dX3_canBeSpliced_12 : decode cX3_canBeSpliced 12 = .ok (.iconst 3, 1) := by decide +kernel
theorem dX3_canBeSpliced_13 : decode cX3_canBeSpliced 13 = .ok (.if_icmp .eq 11, 3) := by decide +kernel
theorem dX3_canBeSpliced_16 : decode cX3_canBeSpliced 16 = .ok (.aload_n 0, 1) := by decide +kernel
theorem dX3_canBeSpliced_17 : decode cX3_canBeSpliced 17 = .ok (.getfield 103, 3) := by decide +kernel
theorem dX3_canBeSpliced_20 : decode cX3_canBeSpliced 20 = .ok (.iconst 5, 1) := by decide +kernel
theorem dX3_canBeSpliced_21 : decode cX3_canBeSpliced 21 = .ok (.if_icmp .ne 7, 3) := by decide +kernel
theorem dX3_canBeSpliced_24 : decode cX3_canBeSpliced 24 = .ok (.iconst 1, 1) := by decide +kernel
theorem dX3_canBeSpliced_25 : decode cX3_canBeSpliced 25 = .ok (.goto 4, 3) := by decide +kernel
theorem dX3_canBeSpliced_28 : decode cX3_canBeSpliced 28 = .ok (.iconst 0, 1) := by decide +kernel
theorem dX3_canBeSpliced_29 : decode cX3_canBeSpliced 29 = .ok (.ireturn, 1) := by decide +kernel
theorem dX3_untwist_0 : decode cX3_untwist 0 = .ok (.aload_n 0, 1) := by decide +kernel
theorem dX3_untwist_1 : decode cX3_untwist 1 = .ok (.iload_n 1, 1) := by decide +kernel
theorem dX3_untwist_2 : decode cX3_untwist 2 = .ok (.invokevirtual 70, 3) := by decide +kernel
theorem dX3_untwist_5 : decode cX3_untwist 5 = .ok (.astore_n 2, 1) := by decide +kernel
theorem dX3_untwist_6 : decode cX3_untwist 6 = .ok (.aload_n 2, 1) := by decide +kernel
theorem dX3_untwist_7 : decode cX3_untwist 7 = .ok (.ifnull 11, 3) := by decide +kernel
theorem dX3_untwist_10 : decode cX3_untwist 10 = .ok (.aload_n 2, 1) := by decide +kernel
theorem dX3_untwist_11 : decode cX3_untwist 11 = .ok (.getfield 125, 3) := by decide +kernel
theorem dX3_untwist_14 : decode cX3_untwist 14 = .ok (.arraylength, 1) := by decide +kernel
theorem dX3_untwist_15 : decode cX3_untwist 15 = .ok (.ifCond .ne 6, 3) := by decide +kernel
theorem dX3_untwist_18 : decode cX3_untwist 18 = .ok (.bipush (-2), 2) := by decide +kernel
theorem dX3_untwist_20 : decode cX3_untwist 20 = .ok (.ireturn, 1) := by decide +kernel
theorem dX3_untwist_21 : decode cX3_untwist 21 = .ok (.aload_n 2, 1) := by decide +kernel
theorem dX3_untwist_22 : decode cX3_untwist 22 = .ok (.iconst 3, 1) := by decide +kernel
theorem dX3_untwist_23 : decode cX3_untwist 23 = .ok (.putfield 67, 3) := by decide +kernel
theorem dX3_untwist_26 : decode cX3_untwist 26 = .ok (.iconst 0, 1) := by decide +kernel
theorem dX3_untwist_27 : decode cX3_untwist 27 = .ok (.istore_n 3, 1) := by decide +kernel
theorem dX3_untwist_28 : decode cX3_untwist 28 = .ok (.iload_n 3, 1) := by decide +kernel
theorem dX3_untwist_29 : decode cX3_untwist 29 = .ok (.aload_n 2, 1) := by decide +kernel
theorem dX3_untwist_30 : decode cX3_untwist 30 = .ok (.getfield 125, 3) := by decide +kernel
theorem dX3_untwist_33 : decode cX3_untwist 33 = .ok (.arraylength, 1) := by decide +kernel
theorem dX3_untwist_34 : decode cX3_untwist 34 = .ok (.if_icmp .ge 34, 3) := by decide +kernel
theorem dX3_untwist_37 : decode cX3_untwist 37 = .ok (.aload_n 2, 1) := by decide +kernel
theorem dX3_untwist_38 : decode cX3_untwist 38 = .ok (.getfield 125, 3) := by decide +kernel
theorem dX3_untwist_41 : decode cX3_untwist 41 = .ok (.iload_n 3, 1) := by decide +kernel
theorem dX3_untwist_42 : decode cX3_untwist 42 = .ok (.aaload, 1) := by decide +kernel
theorem dX3_untwist_43 : decode cX3_untwist 43 = .ok (.astore 4, 2) := by decide +kernel
theorem dX3_untwist_45 : decode cX3_untwist 45 = .ok (.aload 4, 2) := by decide +kernel
theorem dX3_untwist_47 : decode cX3_untwist 47 = .ok (.ifnull 15, 3) := by decide +kernel
theorem dX3_untwist_50 : decode cX3_untwist 50 = .ok (.aload 4, 2) := by decide +kernel
theorem dX3_untwist_52 : decode cX3_untwist 52 = .ok (.iconst 0, 1) := by decide +kernel
theorem dX3_untwist_53 : decode cX3_untwist 53 = .ok (.putfield 67, 3) := by decide +kernel
theorem dX3_untwist_56 : decode cX3_untwist 56 = .ok (.aload 4, 2) := by decide +kernel
theorem dX3_untwist_58 : decode cX3_untwist 58 = .ok (.iconst (-1), 1) := by decide +kernel
theorem dX3_untwist_59 : decode cX3_untwist 59 = .ok (.putfield 128, 3) := by decide +kernel
theorem dX3_untwist_62 : decode cX3_untwist 62 = .ok (.iinc 3 1, 3) := by decide +kernel
theorem dX3_untwist_65 : decode cX3_untwist 65 = .ok (.goto (-37), 3) := by decide +kernel
theorem dX3_untwist_68 : decode cX3_untwist 68 = .ok (.aload_n 2, 1) := by decide +kernel
theorem dX3_untwist_69 : decode cX3_untwist 69 = .ok (.getfield 125, 3) := by decide +kernel
theorem dX3_untwist_72 : decode cX3_untwist 72 = .ok (.arraylength, 1) := by decide +kernel
theorem dX3_untwist_73 : decode cX3_untwist 73 = .ok (.ireturn, 1) := by decide +kernel
theorem dX3_of_0 : decode cX3_of 0 = .ok (.aload_n 0, 1) := by decide +kernel
theorem dX3_of_1 : decode cX3_of 1 = .ok (.iload_n 1, 1) := by decide +kernel
theorem dX3_of_2 : decode cX3_of 2 = .ok (.invokevirtual 63, 3) := by decide +kernel
theorem dX3_of_5 : decode cX3_of 5 = .ok (.astore_n 3, 1) := by decide +kernel
theorem dX3_of_6 : decode cX3_of 6 = .ok (.aload_n 3, 1) := by decide +kernel
theorem dX3_of_7 : decode cX3_of 7 = .ok (.ifnonnull 6, 3) := by decide +kernel
theorem dX3_of_10 : decode cX3_of 10 = .ok (.bipush (-2), 2) := by decide +kernel
theorem dX3_of_12 : decode cX3_of 12 = .ok (.ireturn, 1) := by decide +kernel
theorem dX3_of_13 : decode cX3_of 13 = .ok (.iload_n 2, 1) := by decide +kernel
theorem dX3_of_14 : decode cX3_of 14 = .ok (.tableswitch 87 0 7 #[46, 51, 56, 61, 66, 72, 77, 82], 46) := by decide +kernel
theorem dX3_of_60 : decode cX3_of 60 = .ok (.aload_n 3, 1) := by decide +kernel
theorem dX3_of_61 : decode cX3_of 61 = .ok (.getfield 103, 3) := by decide +kernel
theorem dX3_of_64 : decode cX3_of 64 = .ok (.ireturn, 1) := by decide +kernel
theorem dX3_of_65 : decode cX3_of 65 = .ok (.aload_n 3, 1) := by decide +kernel
theorem dX3_of_66 : decode cX3_of 66 = .ok (.getfield 113, 3) := by decide +kernel
theorem dX3_of_69 : decode cX3_of 69 = .ok (.ireturn, 1) := by decide +kernel
theorem dX3_of_70 : decode cX3_of 70 = .ok (.aload_n 3, 1) := by decide +kernel
theorem dX3_of_71 : decode cX3_of 71 = .ok (.getfield 106, 3) := by decide +kernel
theorem dX3_of_74 : decode cX3_of 74 = .ok (.ireturn, 1) := by decide +kernel
theorem dX3_of_75 : decode cX3_of 75 = .ok (.aload_n 3, 1) := by decide +kernel
theorem dX3_of_76 : decode cX3_of 76 = .ok (.getfield 67, 3) := by decide +kernel
theorem dX3_of_79 : decode cX3_of 79 = .ok (.ireturn, 1) := by decide +kernel
theorem dX3_of_80 : decode cX3_of 80 = .ok (.aload_n 3, 1) := by decide +kernel
theorem dX3_of_81 : decode cX3_of 81 = .ok (.getfield 125, 3) := by decide +kernel
theorem dX3_of_84 : decode cX3_of 84 = .ok (.arraylength, 1) := by decide +kernel
theorem dX3_of_85 : decode cX3_of 85 = .ok (.ireturn, 1) := by decide +kernel
theorem dX3_of_86 : decode cX3_of 86 = .ok (.aload_n 3, 1) := by decide +kernel
theorem dX3_of_87 : decode cX3_of 87 = .ok (.getfield 53, 3) := by decide +kernel
theorem dX3_of_90 : decode cX3_of 90 = .ok (.ireturn, 1) := by decide +kernel
theorem dX3_of_91 : decode cX3_of 91 = .ok (.aload_n 3, 1) := by decide +kernel
theorem dX3_of_92 : decode cX3_of 92 = .ok (.getfield 128, 3) := by decide +kernel
theorem dX3_of_95 : decode cX3_of 95 = .ok (.ireturn, 1) := by decide +kernel
theorem dX3_of_96 : decode cX3_of 96 = .ok (.aload_n 3, 1) := by decide +kernel
theorem dX3_of_97 : decode cX3_of 97 = .ok (.getfield 137, 3) := by decide +kernel
theorem dX3_of_100 : decode cX3_of 100 = .ok (.ireturn, 1) := by decide +kernel
theorem dX3_of_101 : decode cX3_of 101 = .ok (.bipush (-2), 2) := by decide +kernel
theorem dX3_of_103 : decode cX3_of 103 = .ok (.ireturn, 1) := by decide +kernel
theorem dX3_part_0 : decode cX3_part 0 = .ok (.aload_n 0, 1) := by decide +kernel
theorem dX3_part_1 : decode cX3_part 1 = .ok (.iload_n 1, 1) := by decide +kernel
theorem dX3_part_2 : decode cX3_part 2 = .ok (.invokevirtual 63, 3) := by decide +kernel
theorem dX3_part_5 : decode cX3_part 5 = .ok (.astore_n 3, 1) := by decide +kernel
theorem dX3_part_6 : decode cX3_part 6 = .ok (.aload_n 3, 1) := by decide +kernel
theorem dX3_part_7 : decode cX3_part 7 = .ok (.ifnull 16, 3) := by decide +kernel
theorem dX3_part_10 : decode cX3_part 10 = .ok (.iload_n 2, 1) := by decide +kernel
theorem dX3_part_11 : decode cX3_part 11 = .ok (.ifCond .lt 12, 3) := by decide +kernel
theorem dX3_part_14 : decode cX3_part 14 = .ok (.iload_n 2, 1) := by decide +kernel
theorem dX3_part_15 : decode cX3_part 15 = .ok (.aload_n 3, 1) := by decide +kernel
theorem dX3_part_16 : decode cX3_part 16 = .ok (.getfield 125, 3) := by decide +kernel
theorem dX3_part_19 : decode cX3_part 19 = .ok (.arraylength, 1) := by decide +kernel
theorem dX3_part_20 : decode cX3_part 20 = .ok (.if_icmp .lt 6, 3) := by decide +kernel
theorem dX3_part_23 : decode cX3_part 23 = .ok (.bipush (-2), 2) := by decide +kernel
theorem dX3_part_25 : decode cX3_part 25 = .ok (.ireturn, 1) := by decide +kernel
theorem dX3_part_26 : decode cX3_part 26 = .ok (.aload_n 3, 1) := by decide +kernel
theorem dX3_part_27 : decode cX3_part 27 = .ok (.getfield 125, 3) := by decide +kernel
theorem dX3_part_30 : decode cX3_part 30 = .ok (.iload_n 2, 1) := by decide +kernel
theorem dX3_part_31 : decode cX3_part 31 = .ok (.aaload, 1) := by decide +kernel
theorem dX3_part_32 : decode cX3_part 32 = .ok (.astore 4, 2) := by decide +kernel
theorem dX3_part_34 : decode cX3_part 34 = .ok (.aload 4, 2) := by decide +kernel
theorem dX3_part_36 : decode cX3_part 36 = .ok (.ifnonnull 8, 3) := by decide +kernel
theorem dX3_part_39 : decode cX3_part 39 = .ok (.bipush (-2), 2) := by decide +kernel
theorem dX3_part_41 : decode cX3_part 41 = .ok (.goto 8, 3) := by decide +kernel
theorem dX3_part_44 : decode cX3_part 44 = .ok (.aload 4, 2) := by decide +kernel
theorem dX3_part_46 : decode cX3_part 46 = .ok (.getfield 60, 3) := by decide +kernel
theorem dX3_part_49 : decode cX3_part 49 = .ok (.ireturn, 1) := by decide +kernel
theorem dX3_count_0 : decode cX3_count 0 = .ok (.iload_n 1, 1) := by decide +kernel
theorem dX3_count_1 : decode cX3_count 1 = .ok (.tableswitch 100 0 8 #[51, 56, 62, 68, 74, 80, 85, 90, 95], 51) := by decide +kernel
theorem dX3_count_52 : decode cX3_count 52 = .ok (.aload_n 0, 1) := by decide +kernel
theorem dX3_count_53 : decode cX3_count 53 = .ok (.getfield 40, 3) := by decide +kernel
theorem dX3_count_56 : decode cX3_count 56 = .ok (.ireturn, 1) := by decide +kernel
theorem dX3_count_57 : decode cX3_count 57 = .ok (.aload_n 0, 1) := by decide +kernel
theorem dX3_count_58 : decode cX3_count 58 = .ok (.iconst 0, 1) := by decide +kernel
theorem dX3_count_59 : decode cX3_count 59 = .ok (.invokevirtual 140, 3) := by decide +kernel
theorem dX3_count_62 : decode cX3_count 62 = .ok (.ireturn, 1) := by decide +kernel
theorem dX3_count_63 : decode cX3_count 63 = .ok (.aload_n 0, 1) := by decide +kernel
theorem dX3_count_64 : decode cX3_count 64 = .ok (.iconst 1, 1) := by decide +kernel
theorem dX3_count_65 : decode cX3_count 65 = .ok (.invokevirtual 140, 3) := by decide +kernel
theorem dX3_count_68 : decode cX3_count 68 = .ok (.ireturn, 1) := by decide +kernel
theorem dX3_count_69 : decode cX3_count 69 = .ok (.aload_n 0, 1) := by decide +kernel
theorem dX3_count_70 : decode cX3_count 70 = .ok (.iconst 2, 1) := by decide +kernel
theorem dX3_count_71 : decode cX3_count 71 = .ok (.invokevirtual 140, 3) := by decide +kernel
theorem dX3_count_74 : decode cX3_count 74 = .ok (.ireturn, 1) := by decide +kernel
theorem dX3_count_75 : decode cX3_count 75 = .ok (.aload_n 0, 1) := by decide +kernel
theorem dX3_count_76 : decode cX3_count 76 = .ok (.iconst 3, 1) := by decide +kernel
theorem dX3_count_77 : decode cX3_count 77 = .ok (.invokevirtual 140, 3) := by decide +kernel
theorem dX3_count_80 : decode cX3_count 80 = .ok (.ireturn, 1) := by decide +kernel
theorem dX3_count_81 : decode cX3_count 81 = .ok (.aload_n 0, 1) := by decide +kernel
theorem dX3_count_82 : decode cX3_count 82 = .ok (.getfield 77, 3) := by decide +kernel
theorem dX3_count_85 : decode cX3_count 85 = .ok (.ireturn, 1) := by decide +kernel
theorem dX3_count_86 : decode cX3_count 86 = .ok (.aload_n 0, 1) := by decide +kernel
theorem dX3_count_87 : decode cX3_count 87 = .ok (.getfield 143, 3) := by decide +kernel
theorem dX3_count_90 : decode cX3_count 90 = .ok (.ireturn, 1) := by decide +kernel
theorem dX3_count_91 : decode cX3_count 91 = .ok (.aload_n 0, 1) := by decide +kernel
theorem dX3_count_92 : decode cX3_count 92 = .ok (.invokevirtual 146, 3) := by decide +kernel
theorem dX3_count_95 : decode cX3_count 95 = .ok (.ireturn, 1) := by decide +kernel
theorem dX3_count_96 : decode cX3_count 96 = .ok (.aload_n 0, 1) := by decide +kernel
theorem dX3_count_97 : decode cX3_count 97 = .ok (.getfield 149, 3) := by decide +kernel
theorem dX3_count_100 : decode cX3_count 100 = .ok (.ireturn, 1) := by decide +kernel
theorem dX3_count_101 : decode cX3_count 101 = .ok (.bipush (-2), 2) := by decide +kernel
theorem dX3_count_103 : decode cX3_count 103 = .ok (.ireturn, 1) := by decide +kernel
theorem dX3_piecesThatAre_0 : decode cX3_piecesThatAre 0 = .ok (.iconst 0, 1) := by decide +kernel
theorem dX3_piecesThatAre_1 : decode cX3_piecesThatAre 1 = .ok (.istore_n 2, 1) := by decide +kernel
theorem dX3_piecesThatAre_2 : decode cX3_piecesThatAre 2 = .ok (.iconst 0, 1) := by decide +kernel
theorem dX3_piecesThatAre_3 : decode cX3_piecesThatAre 3 = .ok (.istore_n 3, 1) := by decide +kernel
theorem dX3_piecesThatAre_4 : decode cX3_piecesThatAre 4 = .ok (.iload_n 3, 1) := by decide +kernel
theorem dX3_piecesThatAre_5 : decode cX3_piecesThatAre 5 = .ok (.aload_n 0, 1) := by decide +kernel
theorem dX3_piecesThatAre_6 : decode cX3_piecesThatAre 6 = .ok (.getfield 40, 3) := by decide +kernel
theorem dX3_piecesThatAre_9 : decode cX3_piecesThatAre 9 = .ok (.if_icmp .ge 40, 3) := by decide +kernel
theorem dX3_piecesThatAre_12 : decode cX3_piecesThatAre 12 = .ok (.iload_n 3, 1) := by decide +kernel
theorem dX3_piecesThatAre_13 : decode cX3_piecesThatAre 13 = .ok (.bipush 120, 2) := by decide +kernel
theorem dX3_piecesThatAre_15 : decode cX3_piecesThatAre 15 = .ok (.if_icmp .ge 34, 3) := by decide +kernel
theorem dX3_piecesThatAre_18 : decode cX3_piecesThatAre 18 = .ok (.aload_n 0, 1) := by decide +kernel
theorem dX3_piecesThatAre_19 : decode cX3_piecesThatAre 19 = .ok (.getfield 11, 3) := by decide +kernel
theorem dX3_piecesThatAre_22 : decode cX3_piecesThatAre 22 = .ok (.iload_n 3, 1) := by decide +kernel
theorem dX3_piecesThatAre_23 : decode cX3_piecesThatAre 23 = .ok (.aaload, 1) := by decide +kernel
theorem dX3_piecesThatAre_24 : decode cX3_piecesThatAre 24 = .ok (.ifnull 19, 3) := by decide +kernel
theorem dX3_piecesThatAre_27 : decode cX3_piecesThatAre 27 = .ok (.aload_n 0, 1) := by decide +kernel
theorem dX3_piecesThatAre_28 : decode cX3_piecesThatAre 28 = .ok (.getfield 11, 3) := by decide +kernel
theorem dX3_piecesThatAre_31 : decode cX3_piecesThatAre 31 = .ok (.iload_n 3, 1) := by decide +kernel
theorem dX3_piecesThatAre_32 : decode cX3_piecesThatAre 32 = .ok (.aaload, 1) := by decide +kernel
theorem dX3_piecesThatAre_33 : decode cX3_piecesThatAre 33 = .ok (.getfield 67, 3) := by decide +kernel
theorem dX3_piecesThatAre_36 : decode cX3_piecesThatAre 36 = .ok (.iload_n 1, 1) := by decide +kernel
theorem dX3_piecesThatAre_37 : decode cX3_piecesThatAre 37 = .ok (.if_icmp .ne 6, 3) := by decide +kernel
theorem dX3_piecesThatAre_40 : decode cX3_piecesThatAre 40 = .ok (.iinc 2 1, 3) := by decide +kernel
theorem dX3_piecesThatAre_43 : decode cX3_piecesThatAre 43 = .ok (.iinc 3 1, 3) := by decide +kernel
theorem dX3_piecesThatAre_46 : decode cX3_piecesThatAre 46 = .ok (.goto (-42), 3) := by decide +kernel
theorem dX3_piecesThatAre_49 : decode cX3_piecesThatAre 49 = .ok (.iload_n 2, 1) := by decide +kernel
theorem dX3_piecesThatAre_50 : decode cX3_piecesThatAre 50 = .ok (.ireturn, 1) := by decide +kernel
theorem dX3_row_0 : decode cX3_row 0 = .ok (.aload_n 0, 1) := by decide +kernel
theorem dX3_row_1 : decode cX3_row 1 = .ok (.iload_n 1, 1) := by decide +kernel
theorem dX3_row_2 : decode cX3_row 2 = .ok (.invokevirtual 152, 3) := by decide +kernel
theorem dX3_row_5 : decode cX3_row 5 = .ok (.astore_n 3, 1) := by decide +kernel
theorem dX3_row_6 : decode cX3_row 6 = .ok (.aload_n 3, 1) := by decide +kernel
theorem dX3_row_7 : decode cX3_row 7 = .ok (.ifnull 9, 3) := by decide +kernel
theorem dX3_row_10 : decode cX3_row 10 = .ok (.iload_n 2, 1) := by decide +kernel
theorem dX3_row_11 : decode cX3_row 11 = .ok (.bipush 8, 2) := by decide +kernel
theorem dX3_row_13 : decode cX3_row 13 = .ok (.if_icmp .le 6, 3) := by decide +kernel
theorem dX3_row_16 : decode cX3_row 16 = .ok (.bipush (-2), 2) := by decide +kernel
theorem dX3_row_18 : decode cX3_row 18 = .ok (.ireturn, 1) := by decide +kernel
theorem dX3_row_19 : decode cX3_row 19 = .ok (.iload_n 2, 1) := by decide +kernel
theorem dX3_row_20 : decode cX3_row 20 = .ok (.ifCond .ge 6, 3) := by decide +kernel
theorem dX3_row_23 : decode cX3_row 23 = .ok (.bipush (-13), 2) := by decide +kernel
theorem dX3_row_25 : decode cX3_row 25 = .ok (.ireturn, 1) := by decide +kernel
theorem dX3_row_26 : decode cX3_row 26 = .ok (.aload_n 3, 1) := by decide +kernel
theorem dX3_row_27 : decode cX3_row 27 = .ok (.iload_n 2, 1) := by decide +kernel
theorem dX3_row_28 : decode cX3_row 28 = .ok (.putfield 137, 3) := by decide +kernel
theorem dX3_row_31 : decode cX3_row 31 = .ok (.iconst 0, 1) := by decide +kernel
theorem dX3_row_32 : decode cX3_row 32 = .ok (.istore 4, 2) := by decide +kernel
theorem dX3_row_34 : decode cX3_row 34 = .ok (.iload 4, 2) := by decide +kernel
theorem dX3_row_36 : decode cX3_row 36 = .ok (.iload_n 2, 1) := by decide +kernel
theorem dX3_row_37 : decode cX3_row 37 = .ok (.if_icmp .ge 17, 3) := by decide +kernel
theorem dX3_row_40 : decode cX3_row 40 = .ok (.aload_n 3, 1) := by decide +kernel
theorem dX3_row_41 : decode cX3_row 41 = .ok (.getfield 155, 3) := by decide +kernel
theorem dX3_row_44 : decode cX3_row 44 = .ok (.iload 4, 2) := by decide +kernel
theorem dX3_row_46 : decode cX3_row 46 = .ok (.iconst (-1), 1) := by decide +kernel
theorem dX3_row_47 : decode cX3_row 47 = .ok (.iastore, 1) := by decide +kernel
theorem dX3_row_48 : decode cX3_row 48 = .ok (.iinc 4 1, 3) := by decide +kernel
theorem dX3_row_51 : decode cX3_row 51 = .ok (.goto (-17), 3) := by decide +kernel
theorem dX3_row_54 : decode cX3_row 54 = .ok (.iload_n 2, 1) := by decide +kernel
theorem dX3_row_55 : decode cX3_row 55 = .ok (.ireturn, 1) := by decide +kernel
theorem dX3_lose_0 : decode cX3_lose 0 = .ok (.aload_n 0, 1) := by decide +kernel
theorem dX3_lose_1 : decode cX3_lose 1 = .ok (.iload_n 1, 1) := by decide +kernel
theorem dX3_lose_2 : decode cX3_lose 2 = .ok (.invokevirtual 152, 3) := by decide +kernel
theorem dX3_lose_5 : decode cX3_lose 5 = .ok (.astore_n 2, 1) := by decide +kernel
theorem dX3_lose_6 : decode cX3_lose 6 = .ok (.aload_n 2, 1) := by decide +kernel
theorem dX3_lose_7 : decode cX3_lose 7 = .ok (.ifnonnull 6, 3) := by decide +kernel
theorem dX3_lose_10 : decode cX3_lose 10 = .ok (.bipush (-2), 2) := by decide +kernel
theorem dX3_lose_12 : decode cX3_lose 12 = .ok (.ireturn, 1) := by decide +kernel
theorem dX3_lose_13 : decode cX3_lose 13 = .ok (.aload_n 2, 1) := by decide +kernel
theorem dX3_lose_14 : decode cX3_lose 14 = .ok (.getfield 137, 3) := by decide +kernel
theorem dX3_lose_17 : decode cX3_lose 17 = .ok (.ifCond .lt 7, 3) := by decide +kernel
theorem dX3_lose_20 : decode cX3_lose 20 = .ok (.iconst 1, 1) := by decide +kernel
theorem dX3_lose_21 : decode cX3_lose 21 = .ok (.goto 4, 3) := by decide +kernel
theorem dX3_lose_24 : decode cX3_lose 24 = .ok (.iconst 0, 1) := by decide +kernel
theorem dX3_lose_25 : decode cX3_lose 25 = .ok (.istore_n 3, 1) := by decide +kernel
theorem dX3_lose_26 : decode cX3_lose 26 = .ok (.aload_n 2, 1) := by decide +kernel
theorem dX3_lose_27 : decode cX3_lose 27 = .ok (.iconst (-1), 1) := by decide +kernel
theorem dX3_lose_28 : decode cX3_lose 28 = .ok (.putfield 137, 3) := by decide +kernel
theorem dX3_lose_31 : decode cX3_lose 31 = .ok (.iload_n 3, 1) := by decide +kernel
theorem dX3_lose_32 : decode cX3_lose 32 = .ok (.ireturn, 1) := by decide +kernel
theorem dX3_spot_0 : decode cX3_spot 0 = .ok (.aload_n 0, 1) := by decide +kernel
theorem dX3_spot_1 : decode cX3_spot 1 = .ok (.iload_n 1, 1) := by decide +kernel
theorem dX3_spot_2 : decode cX3_spot 2 = .ok (.invokevirtual 152, 3) := by decide +kernel
theorem dX3_spot_5 : decode cX3_spot 5 = .ok (.astore 6, 2) := by decide +kernel
theorem dX3_spot_7 : decode cX3_spot 7 = .ok (.aload 6, 2) := by decide +kernel
theorem dX3_spot_9 : decode cX3_spot 9 = .ok (.ifnull 27, 3) := by decide +kernel
theorem dX3_spot_12 : decode cX3_spot 12 = .ok (.iload_n 3, 1) := by decide +kernel
theorem dX3_spot_13 : decode cX3_spot 13 = .ok (.ifCond .lt 23, 3) := by decide +kernel
theorem dX3_spot_16 : decode cX3_spot 16 = .ok (.iload_n 3, 1) := by decide +kernel
theorem dX3_spot_17 : decode cX3_spot 17 = .ok (.sipush 2000, 3) := by decide +kernel
theorem dX3_spot_20 : decode cX3_spot 20 = .ok (.if_icmp .gt 16, 3) := by decide +kernel
theorem dX3_spot_23 : decode cX3_spot 23 = .ok (.iload 4, 2) := by decide +kernel
theorem dX3_spot_25 : decode cX3_spot 25 = .ok (.ifCond .lt 11, 3) := by decide +kernel
theorem dX3_spot_28 : decode cX3_spot 28 = .ok (.iload 4, 2) := by decide +kernel
theorem dX3_spot_30 : decode cX3_spot 30 = .ok (.sipush 2000, 3) := by decide +kernel
theorem dX3_spot_33 : decode cX3_spot 33 = .ok (.if_icmp .le 6, 3) := by decide +kernel
theorem dX3_spot_36 : decode cX3_spot 36 = .ok (.bipush (-2), 2) := by decide +kernel
theorem dX3_spot_38 : decode cX3_spot 38 = .ok (.ireturn, 1) := by decide +kernel
theorem dX3_spot_39 : decode cX3_spot 39 = .ok (.iload 5, 2) := by decide +kernel
theorem dX3_spot_41 : decode cX3_spot 41 = .ok (.iconst (-1), 1) := by decide +kernel
theorem dX3_spot_42 : decode cX3_spot 42 = .ok (.if_icmp .lt 10, 3) := by decide +kernel
theorem dX3_spot_45 : decode cX3_spot 45 = .ok (.iload 5, 2) := by decide +kernel
theorem dX3_spot_47 : decode cX3_spot 47 = .ok (.bipush 8, 2) := by decide +kernel
theorem dX3_spot_49 : decode cX3_spot 49 = .ok (.if_icmp .le 6, 3) := by decide +kernel
theorem dX3_spot_52 : decode cX3_spot 52 = .ok (.bipush (-2), 2) := by decide +kernel
theorem dX3_spot_54 : decode cX3_spot 54 = .ok (.ireturn, 1) := by decide +kernel
theorem dX3_spot_55 : decode cX3_spot 55 = .ok (.aload 6, 2) := by decide +kernel
theorem dX3_spot_57 : decode cX3_spot 57 = .ok (.getfield 137, 3) := by decide +kernel
theorem dX3_spot_60 : decode cX3_spot 60 = .ok (.ifCond .ge 6, 3) := by decide +kernel
theorem dX3_spot_63 : decode cX3_spot 63 = .ok (.bipush (-10), 2) := by decide +kernel
theorem dX3_spot_65 : decode cX3_spot 65 = .ok (.ireturn, 1) := by decide +kernel
theorem dX3_spot_66 : decode cX3_spot 66 = .ok (.iload_n 2, 1) := by decide +kernel
theorem dX3_spot_67 : decode cX3_spot 67 = .ok (.ifCond .lt 18, 3) := by decide +kernel
theorem dX3_spot_70 : decode cX3_spot 70 = .ok (.iload_n 2, 1) := by decide +kernel
theorem dX3_spot_71 : decode cX3_spot 71 = .ok (.aload 6, 2) := by decide +kernel
theorem dX3_spot_73 : decode cX3_spot 73 = .ok (.getfield 137, 3) := by decide +kernel
theorem dX3_spot_76 : decode cX3_spot 76 = .ok (.if_icmp .ge 9, 3) := by decide +kernel
theorem dX3_spot_79 : decode cX3_spot 79 = .ok (.iload_n 2, 1) := by decide +kernel
theorem dX3_spot_80 : decode cX3_spot 80 = .ok (.bipush 8, 2) := by decide +kernel
theorem dX3_spot_82 : decode cX3_spot 82 = .ok (.if_icmp .lt 6, 3) := by decide +kernel
theorem dX3_spot_85 : decode cX3_spot 85 = .ok (.bipush (-11), 2) := by decide +kernel
theorem dX3_spot_87 : decode cX3_spot 87 = .ok (.ireturn, 1) := by decide +kernel
theorem dX3_spot_88 : decode cX3_spot 88 = .ok (.aload 6, 2) := by decide +kernel
theorem dX3_spot_90 : decode cX3_spot 90 = .ok (.getfield 155, 3) := by decide +kernel
theorem dX3_spot_93 : decode cX3_spot 93 = .ok (.iload_n 2, 1) := by decide +kernel
theorem dX3_spot_94 : decode cX3_spot 94 = .ok (.iaload, 1) := by decide +kernel
theorem dX3_spot_95 : decode cX3_spot 95 = .ok (.ifCond .lt 7, 3) := by decide +kernel
theorem dX3_spot_98 : decode cX3_spot 98 = .ok (.iconst 1, 1) := by decide +kernel
theorem dX3_spot_99 : decode cX3_spot 99 = .ok (.goto 4, 3) := by decide +kernel
theorem dX3_spot_102 : decode cX3_spot 102 = .ok (.iconst 0, 1) := by decide +kernel
theorem dX3_spot_103 : decode cX3_spot 103 = .ok (.istore 7, 2) := by decide +kernel
theorem dX3_spot_105 : decode cX3_spot 105 = .ok (.aload 6, 2) := by decide +kernel
theorem dX3_spot_107 : decode cX3_spot 107 = .ok (.getfield 158, 3) := by decide +kernel
theorem dX3_spot_110 : decode cX3_spot 110 = .ok (.iload_n 2, 1) := by decide +kernel
theorem dX3_spot_111 : decode cX3_spot 111 = .ok (.iload_n 3, 1) := by decide +kernel
theorem dX3_spot_112 : decode cX3_spot 112 = .ok (.iastore, 1) := by decide +kernel
theorem dX3_spot_113 : decode cX3_spot 113 = .ok (.aload 6, 2) := by decide +kernel
theorem dX3_spot_115 : decode cX3_spot 115 = .ok (.getfield 161, 3) := by decide +kernel
theorem dX3_spot_118 : decode cX3_spot 118 = .ok (.iload_n 2, 1) := by decide +kernel
theorem dX3_spot_119 : decode cX3_spot 119 = .ok (.iload 4, 2) := by decide +kernel
theorem dX3_spot_121 : decode cX3_spot 121 = .ok (.iastore, 1) := by decide +kernel
theorem dX3_spot_122 : decode cX3_spot 122 = .ok (.aload 6, 2) := by decide +kernel
theorem dX3_spot_124 : decode cX3_spot 124 = .ok (.getfield 155, 3) := by decide +kernel
theorem dX3_spot_127 : decode cX3_spot 127 = .ok (.iload_n 2, 1) := by decide +kernel
theorem dX3_spot_128 : decode cX3_spot 128 = .ok (.iload 5, 2) := by decide +kernel
theorem dX3_spot_130 : decode cX3_spot 130 = .ok (.iastore, 1) := by decide +kernel
theorem dX3_spot_131 : decode cX3_spot 131 = .ok (.iload 7, 2) := by decide +kernel
theorem dX3_spot_133 : decode cX3_spot 133 = .ok (.ireturn, 1) := by decide +kernel
theorem dX3_carry_0 : decode cX3_carry 0 = .ok (.aload_n 0, 1) := by decide +kernel
theorem dX3_carry_1 : decode cX3_carry 1 = .ok (.iload_n 1, 1) := by decide +kernel
theorem dX3_carry_2 : decode cX3_carry 2 = .ok (.invokevirtual 152, 3) := by decide +kernel
theorem dX3_carry_5 : decode cX3_carry 5 = .ok (.astore 6, 2) := by decide +kernel
theorem dX3_carry_7 : decode cX3_carry 7 = .ok (.aload_n 0, 1) := by decide +kernel
theorem dX3_carry_8 : decode cX3_carry 8 = .ok (.iload_n 3, 1) := by decide +kernel
theorem dX3_carry_9 : decode cX3_carry 9 = .ok (.invokevirtual 152, 3) := by decide +kernel
theorem dX3_carry_12 : decode cX3_carry 12 = .ok (.astore 7, 2) := by decide +kernel
theorem dX3_carry_14 : decode cX3_carry 14 = .ok (.aload 6, 2) := by decide +kernel
theorem dX3_carry_16 : decode cX3_carry 16 = .ok (.ifnull 8, 3) := by decide +kernel
theorem dX3_carry_19 : decode cX3_carry 19 = .ok (.aload 7, 2) := by decide +kernel
theorem dX3_carry_21 : decode cX3_carry 21 = .ok (.ifnonnull 6, 3) := by decide +kernel
theorem dX3_carry_24 : decode cX3_carry 24 = .ok (.bipush (-2), 2) := by decide +kernel
theorem dX3_carry_26 : decode cX3_carry 26 = .ok (.ireturn, 1) := by decide +kernel
theorem dX3_carry_27 : decode cX3_carry 27 = .ok (.aload 6, 2) := by decide +kernel
theorem dX3_carry_29 : decode cX3_carry 29 = .ok (.getfield 137, 3) := by decide +kernel
theorem dX3_carry_32 : decode cX3_carry 32 = .ok (.ifCond .lt 11, 3) := by decide +kernel
theorem dX3_carry_35 : decode cX3_carry 35 = .ok (.aload 7, 2) := by decide +kernel
theorem dX3_carry_37 : decode cX3_carry 37 = .ok (.getfield 137, 3) := by decide +kernel
theorem dX3_carry_40 : decode cX3_carry 40 = .ok (.ifCond .ge 6, 3) := by decide +kernel
theorem dX3_carry_43 : decode cX3_carry 43 = .ok (.bipush (-10), 2) := by decide +kernel
theorem dX3_carry_45 : decode cX3_carry 45 = .ok (.ireturn, 1) := by decide +kernel
theorem dX3_carry_46 : decode cX3_carry 46 = .ok (.aload 6, 2) := by decide +kernel
theorem dX3_carry_48 : decode cX3_carry 48 = .ok (.iload_n 2, 1) := by decide +kernel
theorem dX3_carry_49 : decode cX3_carry 49 = .ok (.iload 5, 2) := by decide +kernel
theorem dX3_carry_51 : decode cX3_carry 51 = .ok (.invokestatic 164, 3) := by decide +kernel
theorem dX3_carry_54 : decode cX3_carry 54 = .ok (.ifCond .eq 15, 3) := by decide +kernel
theorem dX3_carry_57 : decode cX3_carry 57 = .ok (.aload 7, 2) := by decide +kernel
theorem dX3_carry_59 : decode cX3_carry 59 = .ok (.iload 4, 2) := by decide +kernel
theorem dX3_carry_61 : decode cX3_carry 61 = .ok (.iload 5, 2) := by decide +kernel
theorem dX3_carry_63 : decode cX3_carry 63 = .ok (.invokestatic 164, 3) := by decide +kernel
theorem dX3_carry_66 : decode cX3_carry 66 = .ok (.ifCond .ne 6, 3) := by decide +kernel
theorem dX3_carry_69 : decode cX3_carry 69 = .ok (.bipush (-11), 2) := by decide +kernel
theorem dX3_carry_71 : decode cX3_carry 71 = .ok (.ireturn, 1) := by decide +kernel
theorem dX3_carry_72 : decode cX3_carry 72 = .ok (.aload 6, 2) := by decide +kernel
theorem dX3_carry_74 : decode cX3_carry 74 = .ok (.getfield 158, 3) := by decide +kernel
theorem dX3_carry_77 : decode cX3_carry 77 = .ok (.iload_n 2, 1) := by decide +kernel
theorem dX3_carry_78 : decode cX3_carry 78 = .ok (.aload 7, 2) := by decide +kernel
theorem dX3_carry_80 : decode cX3_carry 80 = .ok (.getfield 158, 3) := by decide +kernel
theorem dX3_carry_83 : decode cX3_carry 83 = .ok (.iload 4, 2) := by decide +kernel
theorem dX3_carry_85 : decode cX3_carry 85 = .ok (.iload 5, 2) := by decide +kernel
theorem dX3_carry_87 : decode cX3_carry 87 = .ok (.invokestatic 168, 3) := by decide +kernel
theorem dX3_carry_90 : decode cX3_carry 90 = .ok (.aload 6, 2) := by decide +kernel
theorem dX3_carry_92 : decode cX3_carry 92 = .ok (.getfield 161, 3) := by decide +kernel
theorem dX3_carry_95 : decode cX3_carry 95 = .ok (.iload_n 2, 1) := by decide +kernel
theorem dX3_carry_96 : decode cX3_carry 96 = .ok (.aload 7, 2) := by decide +kernel
theorem dX3_carry_98 : decode cX3_carry 98 = .ok (.getfield 161, 3) := by decide +kernel
theorem dX3_carry_101 : decode cX3_carry 101 = .ok (.iload 4, 2) := by decide +kernel
theorem dX3_carry_103 : decode cX3_carry 103 = .ok (.iload 5, 2) := by decide +kernel
theorem dX3_carry_105 : decode cX3_carry 105 = .ok (.invokestatic 168, 3) := by decide +kernel
theorem dX3_carry_108 : decode cX3_carry 108 = .ok (.aload 6, 2) := by decide +kernel
theorem dX3_carry_110 : decode cX3_carry 110 = .ok (.getfield 155, 3) := by decide +kernel
theorem dX3_carry_113 : decode cX3_carry 113 = .ok (.iload_n 2, 1) := by decide +kernel
theorem dX3_carry_114 : decode cX3_carry 114 = .ok (.aload 7, 2) := by decide +kernel
theorem dX3_carry_116 : decode cX3_carry 116 = .ok (.getfield 155, 3) := by decide +kernel
theorem dX3_carry_119 : decode cX3_carry 119 = .ok (.iload 4, 2) := by decide +kernel
theorem dX3_carry_121 : decode cX3_carry 121 = .ok (.iload 5, 2) := by decide +kernel
theorem dX3_carry_123 : decode cX3_carry 123 = .ok (.invokestatic 168, 3) := by decide +kernel
theorem dX3_carry_126 : decode cX3_carry 126 = .ok (.aload 7, 2) := by decide +kernel
theorem dX3_carry_128 : decode cX3_carry 128 = .ok (.invokestatic 174, 3) := by decide +kernel
theorem dX3_carry_131 : decode cX3_carry 131 = .ok (.ireturn, 1) := by decide +kernel
theorem dX3_hasSpots_0 : decode cX3_hasSpots 0 = .ok (.iload_n 1, 1) := by decide +kernel
theorem dX3_hasSpots_1 : decode cX3_hasSpots 1 = .ok (.ifCond .lt 30, 3) := by decide +kernel
theorem dX3_hasSpots_4 : decode cX3_hasSpots 4 = .ok (.iload_n 2, 1) := by decide +kernel
theorem dX3_hasSpots_5 : decode cX3_hasSpots 5 = .ok (.ifCond .lt 26, 3) := by decide +kernel
theorem dX3_hasSpots_8 : decode cX3_hasSpots 8 = .ok (.aload_n 0, 1) := by decide +kernel
theorem dX3_hasSpots_9 : decode cX3_hasSpots 9 = .ok (.getfield 137, 3) := by decide +kernel
theorem dX3_hasSpots_12 : decode cX3_hasSpots 12 = .ok (.bipush 8, 2) := by decide +kernel
theorem dX3_hasSpots_14 : decode cX3_hasSpots 14 = .ok (.if_icmp .gt 17, 3) := by decide +kernel
theorem dX3_hasSpots_17 : decode cX3_hasSpots 17 = .ok (.iload_n 2, 1) := by decide +kernel
theorem dX3_hasSpots_18 : decode cX3_hasSpots 18 = .ok (.aload_n 0, 1) := by decide +kernel
theorem dX3_hasSpots_19 : decode cX3_hasSpots 19 = .ok (.getfield 137, 3) := by decide +kernel
theorem dX3_hasSpots_22 : decode cX3_hasSpots 22 = .ok (.iload_n 1, 1) := by decide +kernel
theorem dX3_hasSpots_23 : decode cX3_hasSpots 23 = .ok (.isub, 1) := by decide +kernel
theorem dX3_hasSpots_24 : decode cX3_hasSpots 24 = .ok (.if_icmp .gt 7, 3) := by decide +kernel
theorem dX3_hasSpots_27 : decode cX3_hasSpots 27 = .ok (.iconst 1, 1) := by decide +kernel
theorem dX3_hasSpots_28 : decode cX3_hasSpots 28 = .ok (.goto 4, 3) := by decide +kernel
theorem dX3_hasSpots_31 : decode cX3_hasSpots 31 = .ok (.iconst 0, 1) := by decide +kernel
theorem dX3_hasSpots_32 : decode cX3_hasSpots 32 = .ok (.ireturn, 1) := by decide +kernel
theorem dX3_toldSpots_0 : decode cX3_toldSpots 0 = .ok (.iconst 0, 1) := by decide +kernel
theorem dX3_toldSpots_1 : decode cX3_toldSpots 1 = .ok (.istore_n 1, 1) := by decide +kernel
theorem dX3_toldSpots_2 : decode cX3_toldSpots 2 = .ok (.iconst 0, 1) := by decide +kernel
theorem dX3_toldSpots_3 : decode cX3_toldSpots 3 = .ok (.istore_n 2, 1) := by decide +kernel
theorem dX3_toldSpots_4 : decode cX3_toldSpots 4 = .ok (.iload_n 2, 1) := by decide +kernel
theorem dX3_toldSpots_5 : decode cX3_toldSpots 5 = .ok (.aload_n 0, 1) := by decide +kernel
theorem dX3_toldSpots_6 : decode cX3_toldSpots 6 = .ok (.getfield 137, 3) := by decide +kernel
theorem dX3_toldSpots_9 : decode cX3_toldSpots 9 = .ok (.if_icmp .ge 27, 3) := by decide +kernel
theorem dX3_toldSpots_12 : decode cX3_toldSpots 12 = .ok (.iload_n 2, 1) := by decide +kernel
theorem dX3_toldSpots_13 : decode cX3_toldSpots 13 = .ok (.bipush 8, 2) := by decide +kernel
theorem dX3_toldSpots_15 : decode cX3_toldSpots 15 = .ok (.if_icmp .ge 21, 3) := by decide +kernel
theorem dX3_toldSpots_18 : decode cX3_toldSpots 18 = .ok (.aload_n 0, 1) := by decide +kernel
theorem dX3_toldSpots_19 : decode cX3_toldSpots 19 = .ok (.getfield 155, 3) := by decide +kernel
theorem dX3_toldSpots_22 : decode cX3_toldSpots 22 = .ok (.iload_n 2, 1) := by decide +kernel
theorem dX3_toldSpots_23 : decode cX3_toldSpots 23 = .ok (.iaload, 1) := by decide +kernel
theorem dX3_toldSpots_24 : decode cX3_toldSpots 24 = .ok (.ifCond .lt 6, 3) := by decide +kernel
theorem dX3_toldSpots_27 : decode cX3_toldSpots 27 = .ok (.iinc 1 1, 3) := by decide +kernel
theorem dX3_toldSpots_30 : decode cX3_toldSpots 30 = .ok (.iinc 2 1, 3) := by decide +kernel
theorem dX3_toldSpots_33 : decode cX3_toldSpots 33 = .ok (.goto (-29), 3) := by decide +kernel
theorem dX3_toldSpots_36 : decode cX3_toldSpots 36 = .ok (.iload_n 1, 1) := by decide +kernel
theorem dX3_toldSpots_37 : decode cX3_toldSpots 37 = .ok (.ireturn, 1) := by decide +kernel
theorem dX3_bearing_0 : decode cX3_bearing 0 = .ok (.aload_n 0, 1) := by decide +kernel
theorem dX3_bearing_1 : decode cX3_bearing 1 = .ok (.ifnull 9, 3) := by decide +kernel
theorem dX3_bearing_4 : decode cX3_bearing 4 = .ok (.iload_n 2, 1) := by decide +kernel
theorem dX3_bearing_5 : decode cX3_bearing 5 = .ok (.bipush 40, 2) := by decide +kernel
theorem dX3_bearing_7 : decode cX3_bearing 7 = .ok (.if_icmp .le 5, 3) := by decide +kernel
theorem dX3_bearing_10 : decode cX3_bearing 10 = .ok (.fconst 0, 1) := by decide +kernel
theorem dX3_bearing_11 : decode cX3_bearing 11 = .ok (.freturn, 1) := by decide +kernel
theorem dX3_bearing_12 : decode cX3_bearing 12 = .ok (.aload_n 0, 1) := by decide +kernel
theorem dX3_bearing_13 : decode cX3_bearing 13 = .ok (.getfield 49, 3) := by decide +kernel
theorem dX3_bearing_16 : decode cX3_bearing 16 = .ok (.fstore_n 3, 1) := by decide +kernel
theorem dX3_bearing_17 : decode cX3_bearing 17 = .ok (.aload_n 0, 1) := by decide +kernel
theorem dX3_bearing_18 : decode cX3_bearing 18 = .ok (.getfield 103, 3) := by decide +kernel
theorem dX3_bearing_21 : decode cX3_bearing 21 = .ok (.iconst 5, 1) := by decide +kernel
theorem dX3_bearing_22 : decode cX3_bearing 22 = .ok (.if_icmp .ne 13, 3) := by decide +kernel
theorem dX3_bearing_25 : decode cX3_bearing 25 = .ok (.aload_n 0, 1) := by decide +kernel
theorem dX3_bearing_26 : decode cX3_bearing 26 = .ok (.iload_n 1, 1) := by decide +kernel
theorem dX3_bearing_27 : decode cX3_bearing 27 = .ok (.iload_n 2, 1) := by decide +kernel
theorem dX3_bearing_28 : decode cX3_bearing 28 = .ok (.invokestatic 177, 3) := by decide +kernel
theorem dX3_bearing_31 : decode cX3_bearing 31 = .ok (.fstore_n 3, 1) := by decide +kernel
theorem dX3_bearing_32 : decode cX3_bearing 32 = .ok (.goto 18, 3) := by decide +kernel
theorem dX3_bearing_35 : decode cX3_bearing 35 = .ok (.aload_n 0, 1) := by decide +kernel
theorem dX3_bearing_36 : decode cX3_bearing 36 = .ok (.getfield 125, 3) := by decide +kernel
theorem dX3_bearing_39 : decode cX3_bearing 39 = .ok (.arraylength, 1) := by decide +kernel
theorem dX3_bearing_40 : decode cX3_bearing 40 = .ok (.ifCond .le 10, 3) := by decide +kernel
theorem dX3_bearing_43 : decode cX3_bearing 43 = .ok (.aload_n 0, 1) := by decide +kernel
theorem dX3_bearing_44 : decode cX3_bearing 44 = .ok (.iload_n 1, 1) := by decide +kernel
theorem dX3_bearing_45 : decode cX3_bearing 45 = .ok (.iload_n 2, 1) := by decide +kernel
theorem dX3_bearing_46 : decode cX3_bearing 46 = .ok (.invokestatic 181, 3) := by decide +kernel
theorem dX3_bearing_49 : decode cX3_bearing 49 = .ok (.fstore_n 3, 1) := by decide +kernel
theorem dX3_bearing_50 : decode cX3_bearing 50 = .ok (.aload_n 0, 1) := by decide +kernel
theorem dX3_bearing_51 : decode cX3_bearing 51 = .ok (.iload_n 1, 1) := by decide +kernel
theorem dX3_bearing_52 : decode cX3_bearing 52 = .ok (.fload_n 3, 1) := by decide +kernel
theorem dX3_bearing_53 : decode cX3_bearing 53 = .ok (.invokestatic 184, 3) := by decide +kernel
theorem dX3_bearing_56 : decode cX3_bearing 56 = .ok (.freturn, 1) := by decide +kernel
theorem dX3_laidBase_0 : decode cX3_laidBase 0 = .ok (.fconst 0, 1) := by decide +kernel
theorem dX3_laidBase_1 : decode cX3_laidBase 1 = .ok (.fstore_n 3, 1) := by decide +kernel
theorem dX3_laidBase_2 : decode cX3_laidBase 2 = .ok (.iconst 0, 1) := by decide +kernel
theorem dX3_laidBase_3 : decode cX3_laidBase 3 = .ok (.istore 4, 2) := by decide +kernel
theorem dX3_laidBase_5 : decode cX3_laidBase 5 = .ok (.iload 4, 2) := by decide +kernel
theorem dX3_laidBase_7 : decode cX3_laidBase 7 = .ok (.aload_n 0, 1) := by decide +kernel
theorem dX3_laidBase_8 : decode cX3_laidBase 8 = .ok (.getfield 125, 3) := by decide +kernel
theorem dX3_laidBase_11 : decode cX3_laidBase 11 = .ok (.arraylength, 1) := by decide +kernel
theorem dX3_laidBase_12 : decode cX3_laidBase 12 = .ok (.if_icmp .ge 41, 3) := by decide +kernel
theorem dX3_laidBase_15 : decode cX3_laidBase 15 = .ok (.aload_n 0, 1) := by decide +kernel
theorem dX3_laidBase_16 : decode cX3_laidBase 16 = .ok (.getfield 125, 3) := by decide +kernel
theorem dX3_laidBase_19 : decode cX3_laidBase 19 = .ok (.iload 4, 2) := by decide +kernel
theorem dX3_laidBase_21 : decode cX3_laidBase 21 = .ok (.aaload, 1) := by decide +kernel
theorem dX3_laidBase_22 : decode cX3_laidBase 22 = .ok (.astore 5, 2) := by decide +kernel
theorem dX3_laidBase_24 : decode cX3_laidBase 24 = .ok (.aload 5, 2) := by decide +kernel
theorem dX3_laidBase_26 : decode cX3_laidBase 26 = .ok (.ifnull 21, 3) := by decide +kernel
theorem dX3_laidBase_29 : decode cX3_laidBase 29 = .ok (.fload_n 3, 1) := by decide +kernel
theorem dX3_laidBase_30 : decode cX3_laidBase 30 = .ok (.aload 5, 2) := by decide +kernel
theorem dX3_laidBase_32 : decode cX3_laidBase 32 = .ok (.aload 5, 2) := by decide +kernel
theorem dX3_laidBase_34 : decode cX3_laidBase 34 = .ok (.aload_n 0, 1) := by decide +kernel
theorem dX3_laidBase_35 : decode cX3_laidBase 35 = .ok (.iload_n 1, 1) := by decide +kernel
theorem dX3_laidBase_36 : decode cX3_laidBase 36 = .ok (.invokestatic 188, 3) := by decide +kernel
theorem dX3_laidBase_39 : decode cX3_laidBase 39 = .ok (.iload_n 2, 1) := by decide +kernel
theorem dX3_laidBase_40 : decode cX3_laidBase 40 = .ok (.iconst 1, 1) := by decide +kernel
theorem dX3_laidBase_41 : decode cX3_laidBase 41 = .ok (.iadd, 1) := by decide +kernel
theorem dX3_laidBase_42 : decode cX3_laidBase 42 = .ok (.invokestatic 192, 3) := by decide +kernel
theorem dX3_laidBase_45 : decode cX3_laidBase 45 = .ok (.fadd, 1) := by decide +kernel
theorem dX3_laidBase_46 : decode cX3_laidBase 46 = .ok (.fstore_n 3, 1) := by decide +kernel
theorem dX3_laidBase_47 : decode cX3_laidBase 47 = .ok (.iinc 4 1, 3) := by decide +kernel
theorem dX3_laidBase_50 : decode cX3_laidBase 50 = .ok (.goto (-45), 3) := by decide +kernel
theorem dX3_laidBase_53 : decode cX3_laidBase 53 = .ok (.aload_n 0, 1) := by decide +kernel
theorem dX3_laidBase_54 : decode cX3_laidBase 54 = .ok (.getfield 103, 3) := by decide +kernel
theorem dX3_laidBase_57 : decode cX3_laidBase 57 = .ok (.iconst 1, 1) := by decide +kernel
theorem dX3_laidBase_58 : decode cX3_laidBase 58 = .ok (.if_icmp .ne 8, 3) := by decide +kernel
theorem dX3_laidBase_61 : decode cX3_laidBase 61 = .ok (.fload_n 3, 1) := by decide +kernel
theorem dX3_laidBase_62 : decode cX3_laidBase 62 = .ok (.ldc 195, 2) := by decide +kernel
theorem dX3_laidBase_64 : decode cX3_laidBase 64 = .ok (.fmul, 1) := by decide +kernel
theorem dX3_laidBase_65 : decode cX3_laidBase 65 = .ok (.freturn, 1) := by decide +kernel
theorem dX3_laidBase_66 : decode cX3_laidBase 66 = .ok (.aload_n 0, 1) := by decide +kernel
theorem dX3_laidBase_67 : decode cX3_laidBase 67 = .ok (.getfield 103, 3) := by decide +kernel
theorem dX3_laidBase_70 : decode cX3_laidBase 70 = .ok (.iconst 2, 1) := by decide +kernel
theorem dX3_laidBase_71 : decode cX3_laidBase 71 = .ok (.if_icmp .ne 10, 3) := by decide +kernel
theorem dX3_laidBase_74 : decode cX3_laidBase 74 = .ok (.fload_n 3, 1) := by decide +kernel
theorem dX3_laidBase_75 : decode cX3_laidBase 75 = .ok (.ldc 196, 2) := by decide +kernel
theorem dX3_laidBase_77 : decode cX3_laidBase 77 = .ok (.fmul, 1) := by decide +kernel
theorem dX3_laidBase_78 : decode cX3_laidBase 78 = .ok (.goto 7, 3) := by decide +kernel
theorem dX3_laidBase_81 : decode cX3_laidBase 81 = .ok (.fload_n 3, 1) := by decide +kernel
theorem dX3_laidBase_82 : decode cX3_laidBase 82 = .ok (.ldc 197, 2) := by decide +kernel
theorem dX3_laidBase_84 : decode cX3_laidBase 84 = .ok (.fmul, 1) := by decide +kernel
theorem dX3_laidBase_85 : decode cX3_laidBase 85 = .ok (.freturn, 1) := by decide +kernel
theorem dX3_placeOn_0 : decode cX3_placeOn 0 = .ok (.aload_n 1, 1) := by decide +kernel
theorem dX3_placeOn_1 : decode cX3_placeOn 1 = .ok (.getfield 113, 3) := by decide +kernel
theorem dX3_placeOn_4 : decode cX3_placeOn 4 = .ok (.iconst 1, 1) := by decide +kernel
theorem dX3_placeOn_5 : decode cX3_placeOn 5 = .ok (.if_icmp .ge 7, 3) := by decide +kernel
theorem dX3_placeOn_8 : decode cX3_placeOn 8 = .ok (.iconst 0, 1) := by decide +kernel
theorem dX3_placeOn_9 : decode cX3_placeOn 9 = .ok (.goto 14, 3) := by decide +kernel
theorem dX3_placeOn_12 : decode cX3_placeOn 12 = .ok (.iload_n 2, 1) := by decide +kernel
theorem dX3_placeOn_13 : decode cX3_placeOn 13 = .ok (.aload_n 0, 1) := by decide +kernel
theorem dX3_placeOn_14 : decode cX3_placeOn 14 = .ok (.getfield 113, 3) := by decide +kernel
theorem dX3_placeOn_17 : decode cX3_placeOn 17 = .ok (.imul, 1) := by decide +kernel
theorem dX3_placeOn_18 : decode cX3_placeOn 18 = .ok (.aload_n 1, 1) := by decide +kernel
theorem dX3_placeOn_19 : decode cX3_placeOn 19 = .ok (.getfield 113, 3) := by decide +kernel
theorem dX3_placeOn_22 : decode cX3_placeOn 22 = .ok (.idiv, 1) := by decide +kernel
theorem dX3_placeOn_23 : decode cX3_placeOn 23 = .ok (.ireturn, 1) := by decide +kernel
theorem dX3_splicedBase_0 : decode cX3_splicedBase 0 = .ok (.fconst 0, 1) := by decide +kernel
theorem dX3_splicedBase_1 : decode cX3_splicedBase 1 = .ok (.fstore_n 3, 1) := by decide +kernel
theorem dX3_splicedBase_2 : decode cX3_splicedBase 2 = .ok (.iconst 0, 1) := by decide +kernel
theorem dX3_splicedBase_3 : decode cX3_splicedBase 3 = .ok (.istore 4, 2) := by decide +kernel
theorem dX3_splicedBase_5 : decode cX3_splicedBase 5 = .ok (.iload 4, 2) := by decide +kernel
theorem dX3_splicedBase_7 : decode cX3_splicedBase 7 = .ok (.aload_n 0, 1) := by decide +kernel
theorem dX3_splicedBase_8 : decode cX3_splicedBase 8 = .ok (.getfield 125, 3) := by decide +kernel
theorem dX3_splicedBase_11 : decode cX3_splicedBase 11 = .ok (.arraylength, 1) := by decide +kernel
theorem dX3_splicedBase_12 : decode cX3_splicedBase 12 = .ok (.if_icmp .ge 74, 3) := by decide +kernel
theorem dX3_splicedBase_15 : decode cX3_splicedBase 15 = .ok (.aload_n 0, 1) := by decide +kernel
theorem dX3_splicedBase_16 : decode cX3_splicedBase 16 = .ok (.getfield 125, 3) := by decide +kernel
theorem dX3_splicedBase_19 : decode cX3_splicedBase 19 = .ok (.iload 4, 2) := by decide +kernel
theorem dX3_splicedBase_21 : decode cX3_splicedBase 21 = .ok (.aaload, 1) := by decide +kernel
theorem dX3_splicedBase_22 : decode cX3_splicedBase 22 = .ok (.astore 5, 2) := by decide +kernel
theorem dX3_splicedBase_24 : decode cX3_splicedBase 24 = .ok (.iload_n 1, 1) := by decide +kernel
theorem dX3_splicedBase_25 : decode cX3_splicedBase 25 = .ok (.aload_n 0, 1) := by decide +kernel
theorem dX3_splicedBase_26 : decode cX3_splicedBase 26 = .ok (.iload 4, 2) := by decide +kernel
theorem dX3_splicedBase_28 : decode cX3_splicedBase 28 = .ok (.invokestatic 198, 3) := by decide +kernel
theorem dX3_splicedBase_31 : decode cX3_splicedBase 31 = .ok (.isub, 1) := by decide +kernel
theorem dX3_splicedBase_32 : decode cX3_splicedBase 32 = .ok (.istore 6, 2) := by decide +kernel
theorem dX3_splicedBase_34 : decode cX3_splicedBase 34 = .ok (.aload 5, 2) := by decide +kernel
theorem dX3_splicedBase_36 : decode cX3_splicedBase 36 = .ok (.ifnull 44, 3) := by decide +kernel
theorem dX3_splicedBase_39 : decode cX3_splicedBase 39 = .ok (.iload 6, 2) := by decide +kernel
theorem dX3_splicedBase_41 : decode cX3_splicedBase 41 = .ok (.ifCond .lt 39, 3) := by decide +kernel
theorem dX3_splicedBase_44 : decode cX3_splicedBase 44 = .ok (.iload 6, 2) := by decide +kernel
theorem dX3_splicedBase_46 : decode cX3_splicedBase 46 = .ok (.aload 5, 2) := by decide +kernel
theorem dX3_splicedBase_48 : decode cX3_splicedBase 48 = .ok (.getfield 113, 3) := by decide +kernel
theorem dX3_splicedBase_51 : decode cX3_splicedBase 51 = .ok (.if_icmp .ge 29, 3) := by decide +kernel
theorem dX3_splicedBase_54 : decode cX3_splicedBase 54 = .ok (.aload 5, 2) := by decide +kernel
theorem dX3_splicedBase_56 : decode cX3_splicedBase 56 = .ok (.iload 6, 2) := by decide +kernel
theorem dX3_splicedBase_58 : decode cX3_splicedBase 58 = .ok (.iload_n 2, 1) := by decide +kernel
theorem dX3_splicedBase_59 : decode cX3_splicedBase 59 = .ok (.iconst 1, 1) := by decide +kernel
theorem dX3_splicedBase_60 : decode cX3_splicedBase 60 = .ok (.iadd, 1) := by decide +kernel
theorem dX3_splicedBase_61 : decode cX3_splicedBase 61 = .ok (.invokestatic 192, 3) := by decide +kernel
theorem dX3_splicedBase_64 : decode cX3_splicedBase 64 = .ok (.fstore 7, 2) := by decide +kernel
theorem dX3_splicedBase_66 : decode cX3_splicedBase 66 = .ok (.fload 7, 2) := by decide +kernel
theorem dX3_splicedBase_68 : decode cX3_splicedBase 68 = .ok (.fload_n 3, 1) := by decide +kernel
theorem dX3_splicedBase_69 : decode cX3_splicedBase 69 = .ok (.fcmp .l, 1) := by decide +kernel
theorem dX3_splicedBase_70 : decode cX3_splicedBase 70 = .ok (.ifCond .le 8, 3) := by decide +kernel
theorem dX3_splicedBase_73 : decode cX3_splicedBase 73 = .ok (.fload 7, 2) := by decide +kernel
theorem dX3_splicedBase_75 : decode cX3_splicedBase 75 = .ok (.goto 4, 3) := by decide +kernel
theorem dX3_splicedBase_78 : decode cX3_splicedBase 78 = .ok (.fload_n 3, 1) := by decide +kernel
theorem dX3_splicedBase_79 : decode cX3_splicedBase 79 = .ok (.fstore_n 3, 1) := by decide +kernel
theorem dX3_splicedBase_80 : decode cX3_splicedBase 80 = .ok (.iinc 4 1, 3) := by decide +kernel
theorem dX3_splicedBase_83 : decode cX3_splicedBase 83 = .ok (.goto (-78), 3) := by decide +kernel
theorem dX3_splicedBase_86 : decode cX3_splicedBase 86 = .ok (.fload_n 3, 1) := by decide +kernel
theorem dX3_splicedBase_87 : decode cX3_splicedBase 87 = .ok (.freturn, 1) := by decide +kernel
theorem dX3_splicedFrom_0 : decode cX3_splicedFrom 0 = .ok (.iload_n 1, 1) := by decide +kernel
theorem dX3_splicedFrom_1 : decode cX3_splicedFrom 1 = .ok (.ifCond .ne 7, 3) := by decide +kernel
theorem dX3_splicedFrom_4 : decode cX3_splicedFrom 4 = .ok (.iconst 0, 1) := by decide +kernel
theorem dX3_splicedFrom_5 : decode cX3_splicedFrom 5 = .ok (.goto 7, 3) := by decide +kernel
theorem dX3_splicedFrom_8 : decode cX3_splicedFrom 8 = .ok (.aload_n 0, 1) := by decide +kernel
theorem dX3_splicedFrom_9 : decode cX3_splicedFrom 9 = .ok (.getfield 134, 3) := by decide +kernel
theorem dX3_splicedFrom_12 : decode cX3_splicedFrom 12 = .ok (.ireturn, 1) := by decide +kernel
theorem dX3_worn_0 : decode cX3_worn 0 = .ok (.fload_n 2, 1) := by decide +kernel
theorem dX3_worn_1 : decode cX3_worn 1 = .ok (.fstore_n 3, 1) := by decide +kernel
theorem dX3_worn_2 : decode cX3_worn 2 = .ok (.iconst 0, 1) := by decide +kernel
theorem dX3_worn_3 : decode cX3_worn 3 = .ok (.istore 4, 2) := by decide +kernel
theorem dX3_worn_5 : decode cX3_worn 5 = .ok (.iload 4, 2) := by decide +kernel
theorem dX3_worn_7 : decode cX3_worn 7 = .ok (.aload_n 0, 1) := by decide +kernel
theorem dX3_worn_8 : decode cX3_worn 8 = .ok (.getfield 137, 3) := by decide +kernel
theorem dX3_worn_11 : decode cX3_worn 11 = .ok (.if_icmp .ge 62, 3) := by decide +kernel
theorem dX3_worn_14 : decode cX3_worn 14 = .ok (.iload 4, 2) := by decide +kernel
theorem dX3_worn_16 : decode cX3_worn 16 = .ok (.bipush 8, 2) := by decide +kernel
theorem dX3_worn_18 : decode cX3_worn 18 = .ok (.if_icmp .ge 55, 3) := by decide +kernel
theorem dX3_worn_21 : decode cX3_worn 21 = .ok (.aload_n 0, 1) := by decide +kernel
theorem dX3_worn_22 : decode cX3_worn 22 = .ok (.getfield 155, 3) := by decide +kernel
theorem dX3_worn_25 : decode cX3_worn 25 = .ok (.iload 4, 2) := by decide +kernel
theorem dX3_worn_27 : decode cX3_worn 27 = .ok (.iaload, 1) := by decide +kernel
theorem dX3_worn_28 : decode cX3_worn 28 = .ok (.ifCond .lt 39, 3) := by decide +kernel
theorem dX3_worn_31 : decode cX3_worn 31 = .ok (.aload_n 0, 1) := by decide +kernel
theorem dX3_worn_32 : decode cX3_worn 32 = .ok (.getfield 158, 3) := by decide +kernel
theorem dX3_worn_35 : decode cX3_worn 35 = .ok (.iload 4, 2) := by decide +kernel
theorem dX3_worn_37 : decode cX3_worn 37 = .ok (.iaload, 1) := by decide +kernel
theorem dX3_worn_38 : decode cX3_worn 38 = .ok (.iload_n 1, 1) := by decide +kernel
theorem dX3_worn_39 : decode cX3_worn 39 = .ok (.if_icmp .gt 28, 3) := by decide +kernel
theorem dX3_worn_42 : decode cX3_worn 42 = .ok (.iload_n 1, 1) := by decide +kernel
theorem dX3_worn_43 : decode cX3_worn 43 = .ok (.aload_n 0, 1) := by decide +kernel
theorem dX3_worn_44 : decode cX3_worn 44 = .ok (.getfield 161, 3) := by decide +kernel
theorem dX3_worn_47 : decode cX3_worn 47 = .ok (.iload 4, 2) := by decide +kernel
theorem dX3_worn_49 : decode cX3_worn 49 = .ok (.iaload, 1) := by decide +kernel
theorem dX3_worn_50 : decode cX3_worn 50 = .ok (.if_icmp .gt 17, 3) := by decide +kernel
theorem dX3_worn_53 : decode cX3_worn 53 = .ok (.fload_n 3, 1) := by decide +kernel
theorem dX3_worn_54 : decode cX3_worn 54 = .ok (.aload_n 0, 1) := by decide +kernel
theorem dX3_worn_55 : decode cX3_worn 55 = .ok (.getfield 155, 3) := by decide +kernel
theorem dX3_worn_58 : decode cX3_worn 58 = .ok (.iload 4, 2) := by decide +kernel
theorem dX3_worn_60 : decode cX3_worn 60 = .ok (.iaload, 1) := by decide +kernel
theorem dX3_worn_61 : decode cX3_worn 61 = .ok (.i2f, 1) := by decide +kernel
theorem dX3_worn_62 : decode cX3_worn 62 = .ok (.ldc 44, 2) := by decide +kernel
theorem dX3_worn_64 : decode cX3_worn 64 = .ok (.fmul, 1) := by decide +kernel
theorem dX3_worn_65 : decode cX3_worn 65 = .ok (.fmul, 1) := by decide +kernel
theorem dX3_worn_66 : decode cX3_worn 66 = .ok (.fstore_n 3, 1) := by decide +kernel
theorem dX3_worn_67 : decode cX3_worn 67 = .ok (.iinc 4 1, 3) := by decide +kernel
theorem dX3_worn_70 : decode cX3_worn 70 = .ok (.goto (-65), 3) := by decide +kernel
theorem dX3_worn_73 : decode cX3_worn 73 = .ok (.fload_n 3, 1) := by decide +kernel
theorem dX3_worn_74 : decode cX3_worn 74 = .ok (.freturn, 1) := by decide +kernel
theorem dX3_steadyTo_0 : decode cX3_steadyTo 0 = .ok (.aload_n 0, 1) := by decide +kernel
theorem dX3_steadyTo_1 : decode cX3_steadyTo 1 = .ok (.ifnull 9, 3) := by decide +kernel
theorem dX3_steadyTo_4 : decode cX3_steadyTo 4 = .ok (.iload_n 2, 1) := by decide +kernel
theorem dX3_steadyTo_5 : decode cX3_steadyTo 5 = .ok (.bipush 40, 2) := by decide +kernel
theorem dX3_steadyTo_7 : decode cX3_steadyTo 7 = .ok (.if_icmp .le 7, 3) := by decide +kernel
theorem dX3_steadyTo_10 : decode cX3_steadyTo 10 = .ok (.iload_n 1, 1) := by decide +kernel
theorem dX3_steadyTo_11 : decode cX3_steadyTo 11 = .ok (.iconst 1, 1) := by decide +kernel
theorem dX3_steadyTo_12 : decode cX3_steadyTo 12 = .ok (.iadd, 1) := by decide +kernel
theorem dX3_steadyTo_13 : decode cX3_steadyTo 13 = .ok (.ireturn, 1) := by decide +kernel
theorem dX3_steadyTo_14 : decode cX3_steadyTo 14 = .ok (.aload_n 0, 1) := by decide +kernel
theorem dX3_steadyTo_15 : decode cX3_steadyTo 15 = .ok (.getfield 113, 3) := by decide +kernel
theorem dX3_steadyTo_18 : decode cX3_steadyTo 18 = .ok (.istore_n 3, 1) := by decide +kernel
theorem dX3_steadyTo_19 : decode cX3_steadyTo 19 = .ok (.iconst 0, 1) := by decide +kernel
theorem dX3_steadyTo_20 : decode cX3_steadyTo 20 = .ok (.istore 4, 2) := by decide +kernel
theorem dX3_steadyTo_22 : decode cX3_steadyTo 22 = .ok (.iload 4, 2) := by decide +kernel
theorem dX3_steadyTo_24 : decode cX3_steadyTo 24 = .ok (.aload_n 0, 1) := by decide +kernel
theorem dX3_steadyTo_25 : decode cX3_steadyTo 25 = .ok (.getfield 125, 3) := by decide +kernel
theorem dX3_steadyTo_28 : decode cX3_steadyTo 28 = .ok (.arraylength, 1) := by decide +kernel
theorem dX3_steadyTo_29 : decode cX3_steadyTo 29 = .ok (.if_icmp .ge 45, 3) := by decide +kernel
theorem dX3_steadyTo_32 : decode cX3_steadyTo 32 = .ok (.aload_n 0, 1) := by decide +kernel
theorem dX3_steadyTo_33 : decode cX3_steadyTo 33 = .ok (.getfield 103, 3) := by decide +kernel
theorem dX3_steadyTo_36 : decode cX3_steadyTo 36 = .ok (.iconst 5, 1) := by decide +kernel
theorem dX3_steadyTo_37 : decode cX3_steadyTo 37 = .ok (.if_icmp .ne 14, 3) := by decide +kernel
theorem dX3_steadyTo_40 : decode cX3_steadyTo 40 = .ok (.aload_n 0, 1) := by decide +kernel
theorem dX3_steadyTo_41 : decode cX3_steadyTo 41 = .ok (.iload 4, 2) := by decide +kernel
theorem dX3_steadyTo_43 : decode cX3_steadyTo 43 = .ok (.iload_n 1, 1) := by decide +kernel
theorem dX3_steadyTo_44 : decode cX3_steadyTo 44 = .ok (.iload_n 2, 1) := by decide +kernel
theorem dX3_steadyTo_45 : decode cX3_steadyTo 45 = .ok (.invokestatic 202, 3) := by decide +kernel
theorem dX3_steadyTo_48 : decode cX3_steadyTo 48 = .ok (.goto 11, 3) := by decide +kernel
theorem dX3_steadyTo_51 : decode cX3_steadyTo 51 = .ok (.aload_n 0, 1) := by decide +kernel
theorem dX3_steadyTo_52 : decode cX3_steadyTo 52 = .ok (.iload 4, 2) := by decide +kernel
theorem dX3_steadyTo_54 : decode cX3_steadyTo 54 = .ok (.iload_n 1, 1) := by decide +kernel
theorem dX3_steadyTo_55 : decode cX3_steadyTo 55 = .ok (.iload_n 2, 1) := by decide +kernel
theorem dX3_steadyTo_56 : decode cX3_steadyTo 56 = .ok (.invokestatic 206, 3) := by decide +kernel
theorem dX3_steadyTo_59 : decode cX3_steadyTo 59 = .ok (.istore 5, 2) := by decide +kernel
theorem dX3_steadyTo_61 : decode cX3_steadyTo 61 = .ok (.iload_n 3, 1) := by decide +kernel
theorem dX3_steadyTo_62 : decode cX3_steadyTo 62 = .ok (.iload 5, 2) := by decide +kernel
theorem dX3_steadyTo_64 : decode cX3_steadyTo 64 = .ok (.invokestatic 116, 3) := by decide +kernel
theorem dX3_steadyTo_67 : decode cX3_steadyTo 67 = .ok (.istore_n 3, 1) := by decide +kernel
theorem dX3_steadyTo_68 : decode cX3_steadyTo 68 = .ok (.iinc 4 1, 3) := by decide +kernel
theorem dX3_steadyTo_71 : decode cX3_steadyTo 71 = .ok (.goto (-49), 3) := by decide +kernel
theorem dX3_steadyTo_74 : decode cX3_steadyTo 74 = .ok (.aload_n 0, 1) := by decide +kernel
theorem dX3_steadyTo_75 : decode cX3_steadyTo 75 = .ok (.iload_n 1, 1) := by decide +kernel
theorem dX3_steadyTo_76 : decode cX3_steadyTo 76 = .ok (.iload_n 3, 1) := by decide +kernel
theorem dX3_steadyTo_77 : decode cX3_steadyTo 77 = .ok (.invokestatic 209, 3) := by decide +kernel
theorem dX3_steadyTo_80 : decode cX3_steadyTo 80 = .ok (.ireturn, 1) := by decide +kernel
theorem dX3_laidSteadyTo_0 : decode cX3_laidSteadyTo 0 = .ok (.aload_n 0, 1) := by decide +kernel
theorem dX3_laidSteadyTo_1 : decode cX3_laidSteadyTo 1 = .ok (.getfield 125, 3) := by decide +kernel
theorem dX3_laidSteadyTo_4 : decode cX3_laidSteadyTo 4 = .ok (.iload_n 1, 1) := by decide +kernel
theorem dX3_laidSteadyTo_5 : decode cX3_laidSteadyTo 5 = .ok (.aaload, 1) := by decide +kernel
theorem dX3_laidSteadyTo_6 : decode cX3_laidSteadyTo 6 = .ok (.astore 4, 2) := by decide +kernel
theorem dX3_laidSteadyTo_8 : decode cX3_laidSteadyTo 8 = .ok (.aload 4, 2) := by decide +kernel
theorem dX3_laidSteadyTo_10 : decode cX3_laidSteadyTo 10 = .ok (.ifnull 12, 3) := by decide +kernel
theorem dX3_laidSteadyTo_13 : decode cX3_laidSteadyTo 13 = .ok (.aload 4, 2) := by decide +kernel
theorem dX3_laidSteadyTo_15 : decode cX3_laidSteadyTo 15 = .ok (.getfield 113, 3) := by decide +kernel
theorem dX3_laidSteadyTo_18 : decode cX3_laidSteadyTo 18 = .ok (.iconst 1, 1) := by decide +kernel
theorem dX3_laidSteadyTo_19 : decode cX3_laidSteadyTo 19 = .ok (.if_icmp .ge 7, 3) := by decide +kernel
theorem dX3_laidSteadyTo_22 : decode cX3_laidSteadyTo 22 = .ok (.iload_n 2, 1) := by decide +kernel
theorem dX3_laidSteadyTo_23 : decode cX3_laidSteadyTo 23 = .ok (.iconst 1, 1) := by decide +kernel
theorem dX3_laidSteadyTo_24 : decode cX3_laidSteadyTo 24 = .ok (.iadd, 1) := by decide +kernel
theorem dX3_laidSteadyTo_25 : decode cX3_laidSteadyTo 25 = .ok (.ireturn, 1) := by decide +kernel
theorem dX3_laidSteadyTo_26 : decode cX3_laidSteadyTo 26 = .ok (.aload 4, 2) := by decide +kernel
theorem dX3_laidSteadyTo_28 : decode cX3_laidSteadyTo 28 = .ok (.aload 4, 2) := by decide +kernel
theorem dX3_laidSteadyTo_30 : decode cX3_laidSteadyTo 30 = .ok (.aload_n 0, 1) := by decide +kernel
theorem dX3_laidSteadyTo_31 : decode cX3_laidSteadyTo 31 = .ok (.iload_n 2, 1) := by decide +kernel
theorem dX3_laidSteadyTo_32 : decode cX3_laidSteadyTo 32 = .ok (.invokestatic 188, 3) := by decide +kernel
theorem dX3_laidSteadyTo_35 : decode cX3_laidSteadyTo 35 = .ok (.iload_n 3, 1) := by decide +kernel
theorem dX3_laidSteadyTo_36 : decode cX3_laidSteadyTo 36 = .ok (.iconst 1, 1) := by decide +kernel
theorem dX3_laidSteadyTo_37 : decode cX3_laidSteadyTo 37 = .ok (.iadd, 1) := by decide +kernel
theorem dX3_laidSteadyTo_38 : decode cX3_laidSteadyTo 38 = .ok (.invokestatic 213, 3) := by decide +kernel
theorem dX3_laidSteadyTo_41 : decode cX3_laidSteadyTo 41 = .ok (.istore 5, 2) := by decide +kernel
theorem dX3_laidSteadyTo_43 : decode cX3_laidSteadyTo 43 = .ok (.iload 5, 2) := by decide +kernel
theorem dX3_laidSteadyTo_45 : decode cX3_laidSteadyTo 45 = .ok (.aload_n 0, 1) := by decide +kernel
theorem dX3_laidSteadyTo_46 : decode cX3_laidSteadyTo 46 = .ok (.getfield 113, 3) := by decide +kernel
theorem dX3_laidSteadyTo_49 : decode cX3_laidSteadyTo 49 = .ok (.imul, 1) := by decide +kernel
theorem dX3_laidSteadyTo_50 : decode cX3_laidSteadyTo 50 = .ok (.aload 4, 2) := by decide +kernel
theorem dX3_laidSteadyTo_52 : decode cX3_laidSteadyTo 52 = .ok (.getfield 113, 3) := by decide +kernel
theorem dX3_laidSteadyTo_55 : decode cX3_laidSteadyTo 55 = .ok (.iadd, 1) := by decide +kernel
theorem dX3_laidSteadyTo_56 : decode cX3_laidSteadyTo 56 = .ok (.iconst 1, 1) := by decide +kernel
theorem dX3_laidSteadyTo_57 : decode cX3_laidSteadyTo 57 = .ok (.isub, 1) := by decide +kernel
theorem dX3_laidSteadyTo_58 : decode cX3_laidSteadyTo 58 = .ok (.aload 4, 2) := by decide +kernel
theorem dX3_laidSteadyTo_60 : decode cX3_laidSteadyTo 60 = .ok (.getfield 113, 3) := by decide +kernel
theorem dX3_laidSteadyTo_63 : decode cX3_laidSteadyTo 63 = .ok (.idiv, 1) := by decide +kernel
theorem dX3_laidSteadyTo_64 : decode cX3_laidSteadyTo 64 = .ok (.ireturn, 1) := by decide +kernel
theorem dX3_splicedSteadyTo_0 : decode cX3_splicedSteadyTo 0 = .ok (.aload_n 0, 1) := by decide +kernel
theorem dX3_splicedSteadyTo_1 : decode cX3_splicedSteadyTo 1 = .ok (.getfield 125, 3) := by decide +kernel
theorem dX3_splicedSteadyTo_4 : decode cX3_splicedSteadyTo 4 = .ok (.iload_n 1, 1) := by decide +kernel
theorem dX3_splicedSteadyTo_5 : decode cX3_splicedSteadyTo 5 = .ok (.aaload, 1) := by decide +kernel
theorem dX3_splicedSteadyTo_6 : decode cX3_splicedSteadyTo 6 = .ok (.astore 4, 2) := by decide +kernel
theorem dX3_splicedSteadyTo_8 : decode cX3_splicedSteadyTo 8 = .ok (.aload 4, 2) := by decide +kernel
theorem dX3_splicedSteadyTo_10 : decode cX3_splicedSteadyTo 10 = .ok (.ifnonnull 7, 3) := by decide +kernel
theorem dX3_splicedSteadyTo_13 : decode cX3_splicedSteadyTo 13 = .ok (.iload_n 2, 1) := by decide +kernel
theorem dX3_splicedSteadyTo_14 : decode cX3_splicedSteadyTo 14 = .ok (.iconst 1, 1) := by decide +kernel
theorem dX3_splicedSteadyTo_15 : decode cX3_splicedSteadyTo 15 = .ok (.iadd, 1) := by decide +kernel
theorem dX3_splicedSteadyTo_16 : decode cX3_splicedSteadyTo 16 = .ok (.ireturn, 1) := by decide +kernel
theorem dX3_splicedSteadyTo_17 : decode cX3_splicedSteadyTo 17 = .ok (.aload_n 0, 1) := by decide +kernel
theorem dX3_splicedSteadyTo_18 : decode cX3_splicedSteadyTo 18 = .ok (.iload_n 1, 1) := by decide +kernel
theorem dX3_splicedSteadyTo_19 : decode cX3_splicedSteadyTo 19 = .ok (.invokestatic 198, 3) := by decide +kernel
theorem dX3_splicedSteadyTo_22 : decode cX3_splicedSteadyTo 22 = .ok (.istore 5, 2) := by decide +kernel
theorem dX3_splicedSteadyTo_24 : decode cX3_splicedSteadyTo 24 = .ok (.iload_n 2, 1) := by decide +kernel
theorem dX3_splicedSteadyTo_25 : decode cX3_splicedSteadyTo 25 = .ok (.iload 5, 2) := by decide +kernel
theorem dX3_splicedSteadyTo_27 : decode cX3_splicedSteadyTo 27 = .ok (.if_icmp .ge 6, 3) := by decide +kernel
theorem dX3_splicedSteadyTo_30 : decode cX3_splicedSteadyTo 30 = .ok (.iload 5, 2) := by decide +kernel
theorem dX3_splicedSteadyTo_32 : decode cX3_splicedSteadyTo 32 = .ok (.ireturn, 1) := by decide +kernel
theorem dX3_splicedSteadyTo_33 : decode cX3_splicedSteadyTo 33 = .ok (.iload_n 2, 1) := by decide +kernel
theorem dX3_splicedSteadyTo_34 : decode cX3_splicedSteadyTo 34 = .ok (.iload 5, 2) := by decide +kernel
theorem dX3_splicedSteadyTo_36 : decode cX3_splicedSteadyTo 36 = .ok (.isub, 1) := by decide +kernel
theorem dX3_splicedSteadyTo_37 : decode cX3_splicedSteadyTo 37 = .ok (.aload 4, 2) := by decide +kernel
theorem dX3_splicedSteadyTo_39 : decode cX3_splicedSteadyTo 39 = .ok (.getfield 113, 3) := by decide +kernel
theorem dX3_splicedSteadyTo_42 : decode cX3_splicedSteadyTo 42 = .ok (.if_icmp .lt 8, 3) := by decide +kernel
theorem dX3_splicedSteadyTo_45 : decode cX3_splicedSteadyTo 45 = .ok (.aload_n 0, 1) := by decide +kernel
