theorem dX3_splicedSteadyTo_46 : decode cX3_splicedSteadyTo 46 = .ok (.getfield 113, 3) := by decide +kernel
theorem dX3_splicedSteadyTo_49 : decode cX3_splicedSteadyTo 49 = .ok (.ireturn, 1) := by decide +kernel
theorem dX3_splicedSteadyTo_50 : decode cX3_splicedSteadyTo 50 = .ok (.iload 5, 2) := by decide +kernel
theorem dX3_splicedSteadyTo_52 : decode cX3_splicedSteadyTo 52 = .ok (.aload 4, 2) := by decide +kernel
theorem dX3_splicedSteadyTo_54 : decode cX3_splicedSteadyTo 54 = .ok (.iload_n 2, 1) := by decide +kernel
theorem dX3_splicedSteadyTo_55 : decode cX3_splicedSteadyTo 55 = .ok (.iload 5, 2) := by decide +kernel
theorem dX3_splicedSteadyTo_57 : decode cX3_splicedSteadyTo 57 = .ok (.isub, 1) := by decide +kernel
theorem dX3_splicedSteadyTo_58 : decode cX3_splicedSteadyTo 58 = .ok (.iload_n 3, 1) := by decide +kernel
theorem dX3_splicedSteadyTo_59 : decode cX3_splicedSteadyTo 59 = .ok (.iconst 1, 1) := by decide +kernel
theorem dX3_splicedSteadyTo_60 : decode cX3_splicedSteadyTo 60 = .ok (.iadd, 1) := by decide +kernel
theorem dX3_splicedSteadyTo_61 : decode cX3_splicedSteadyTo 61 = .ok (.invokestatic 213, 3) := by decide +kernel
theorem dX3_splicedSteadyTo_64 : decode cX3_splicedSteadyTo 64 = .ok (.iadd, 1) := by decide +kernel
theorem dX3_splicedSteadyTo_65 : decode cX3_splicedSteadyTo 65 = .ok (.ireturn, 1) := by decide +kernel
theorem dX3_rowSteadyTo_0 : decode cX3_rowSteadyTo 0 = .ok (.iload_n 2, 1) := by decide +kernel
theorem dX3_rowSteadyTo_1 : decode cX3_rowSteadyTo 1 = .ok (.istore_n 3, 1) := by decide +kernel
theorem dX3_rowSteadyTo_2 : decode cX3_rowSteadyTo 2 = .ok (.iconst 0, 1) := by decide +kernel
theorem dX3_rowSteadyTo_3 : decode cX3_rowSteadyTo 3 = .ok (.istore 4, 2) := by decide +kernel
theorem dX3_rowSteadyTo_5 : decode cX3_rowSteadyTo 5 = .ok (.iload 4, 2) := by decide +kernel
theorem dX3_rowSteadyTo_7 : decode cX3_rowSteadyTo 7 = .ok (.aload_n 0, 1) := by decide +kernel
theorem dX3_rowSteadyTo_8 : decode cX3_rowSteadyTo 8 = .ok (.getfield 137, 3) := by decide +kernel
theorem dX3_rowSteadyTo_11 : decode cX3_rowSteadyTo 11 = .ok (.if_icmp .ge 94, 3) := by decide +kernel
theorem dX3_rowSteadyTo_14 : decode cX3_rowSteadyTo 14 = .ok (.iload 4, 2) := by decide +kernel
theorem dX3_rowSteadyTo_16 : decode cX3_rowSteadyTo 16 = .ok (.bipush 8, 2) := by decide +kernel
theorem dX3_rowSteadyTo_18 : decode cX3_rowSteadyTo 18 = .ok (.if_icmp .ge 87, 3) := by decide +kernel
theorem dX3_rowSteadyTo_21 : decode cX3_rowSteadyTo 21 = .ok (.aload_n 0, 1) := by decide +kernel
theorem dX3_rowSteadyTo_22 : decode cX3_rowSteadyTo 22 = .ok (.getfield 155, 3) := by decide +kernel
theorem dX3_rowSteadyTo_25 : decode cX3_rowSteadyTo 25 = .ok (.iload 4, 2) := by decide +kernel
theorem dX3_rowSteadyTo_27 : decode cX3_rowSteadyTo 27 = .ok (.iaload, 1) := by decide +kernel
theorem dX3_rowSteadyTo_28 : decode cX3_rowSteadyTo 28 = .ok (.ifCond .lt 71, 3) := by decide +kernel
theorem dX3_rowSteadyTo_31 : decode cX3_rowSteadyTo 31 = .ok (.aload_n 0, 1) := by decide +kernel
theorem dX3_rowSteadyTo_32 : decode cX3_rowSteadyTo 32 = .ok (.getfield 158, 3) := by decide +kernel
theorem dX3_rowSteadyTo_35 : decode cX3_rowSteadyTo 35 = .ok (.iload 4, 2) := by decide +kernel
theorem dX3_rowSteadyTo_37 : decode cX3_rowSteadyTo 37 = .ok (.iaload, 1) := by decide +kernel
theorem dX3_rowSteadyTo_38 : decode cX3_rowSteadyTo 38 = .ok (.aload_n 0, 1) := by decide +kernel
theorem dX3_rowSteadyTo_39 : decode cX3_rowSteadyTo 39 = .ok (.getfield 161, 3) := by decide +kernel
theorem dX3_rowSteadyTo_42 : decode cX3_rowSteadyTo 42 = .ok (.iload 4, 2) := by decide +kernel
theorem dX3_rowSteadyTo_44 : decode cX3_rowSteadyTo 44 = .ok (.iaload, 1) := by decide +kernel
theorem dX3_rowSteadyTo_45 : decode cX3_rowSteadyTo 45 = .ok (.if_icmp .gt 54, 3) := by decide +kernel
theorem dX3_rowSteadyTo_48 : decode cX3_rowSteadyTo 48 = .ok (.iload_n 1, 1) := by decide +kernel
theorem dX3_rowSteadyTo_49 : decode cX3_rowSteadyTo 49 = .ok (.aload_n 0, 1) := by decide +kernel
theorem dX3_rowSteadyTo_50 : decode cX3_rowSteadyTo 50 = .ok (.getfield 158, 3) := by decide +kernel
theorem dX3_rowSteadyTo_53 : decode cX3_rowSteadyTo 53 = .ok (.iload 4, 2) := by decide +kernel
theorem dX3_rowSteadyTo_55 : decode cX3_rowSteadyTo 55 = .ok (.iaload, 1) := by decide +kernel
theorem dX3_rowSteadyTo_56 : decode cX3_rowSteadyTo 56 = .ok (.if_icmp .ge 18, 3) := by decide +kernel
theorem dX3_rowSteadyTo_59 : decode cX3_rowSteadyTo 59 = .ok (.iload_n 3, 1) := by decide +kernel
theorem dX3_rowSteadyTo_60 : decode cX3_rowSteadyTo 60 = .ok (.aload_n 0, 1) := by decide +kernel
theorem dX3_rowSteadyTo_61 : decode cX3_rowSteadyTo 61 = .ok (.getfield 158, 3) := by decide +kernel
theorem dX3_rowSteadyTo_64 : decode cX3_rowSteadyTo 64 = .ok (.iload 4, 2) := by decide +kernel
theorem dX3_rowSteadyTo_66 : decode cX3_rowSteadyTo 66 = .ok (.iaload, 1) := by decide +kernel
theorem dX3_rowSteadyTo_67 : decode cX3_rowSteadyTo 67 = .ok (.invokestatic 116, 3) := by decide +kernel
theorem dX3_rowSteadyTo_70 : decode cX3_rowSteadyTo 70 = .ok (.istore_n 3, 1) := by decide +kernel
theorem dX3_rowSteadyTo_71 : decode cX3_rowSteadyTo 71 = .ok (.goto 28, 3) := by decide +kernel
theorem dX3_rowSteadyTo_74 : decode cX3_rowSteadyTo 74 = .ok (.iload_n 1, 1) := by decide +kernel
theorem dX3_rowSteadyTo_75 : decode cX3_rowSteadyTo 75 = .ok (.aload_n 0, 1) := by decide +kernel
theorem dX3_rowSteadyTo_76 : decode cX3_rowSteadyTo 76 = .ok (.getfield 161, 3) := by decide +kernel
theorem dX3_rowSteadyTo_79 : decode cX3_rowSteadyTo 79 = .ok (.iload 4, 2) := by decide +kernel
theorem dX3_rowSteadyTo_81 : decode cX3_rowSteadyTo 81 = .ok (.iaload, 1) := by decide +kernel
theorem dX3_rowSteadyTo_82 : decode cX3_rowSteadyTo 82 = .ok (.if_icmp .gt 17, 3) := by decide +kernel
theorem dX3_rowSteadyTo_85 : decode cX3_rowSteadyTo 85 = .ok (.iload_n 3, 1) := by decide +kernel
theorem dX3_rowSteadyTo_86 : decode cX3_rowSteadyTo 86 = .ok (.aload_n 0, 1) := by decide +kernel
theorem dX3_rowSteadyTo_87 : decode cX3_rowSteadyTo 87 = .ok (.getfield 161, 3) := by decide +kernel
theorem dX3_rowSteadyTo_90 : decode cX3_rowSteadyTo 90 = .ok (.iload 4, 2) := by decide +kernel
theorem dX3_rowSteadyTo_92 : decode cX3_rowSteadyTo 92 = .ok (.iaload, 1) := by decide +kernel
theorem dX3_rowSteadyTo_93 : decode cX3_rowSteadyTo 93 = .ok (.iconst 1, 1) := by decide +kernel
theorem dX3_rowSteadyTo_94 : decode cX3_rowSteadyTo 94 = .ok (.iadd, 1) := by decide +kernel
theorem dX3_rowSteadyTo_95 : decode cX3_rowSteadyTo 95 = .ok (.invokestatic 116, 3) := by decide +kernel
theorem dX3_rowSteadyTo_98 : decode cX3_rowSteadyTo 98 = .ok (.istore_n 3, 1) := by decide +kernel
theorem dX3_rowSteadyTo_99 : decode cX3_rowSteadyTo 99 = .ok (.iinc 4 1, 3) := by decide +kernel
theorem dX3_rowSteadyTo_102 : decode cX3_rowSteadyTo 102 = .ok (.goto (-97), 3) := by decide +kernel
theorem dX3_rowSteadyTo_105 : decode cX3_rowSteadyTo 105 = .ok (.iload_n 3, 1) := by decide +kernel
theorem dX3_rowSteadyTo_106 : decode cX3_rowSteadyTo 106 = .ok (.ireturn, 1) := by decide +kernel
theorem dX3_weakestPlace_0 : decode cX3_weakestPlace 0 = .ok (.iconst 0, 1) := by decide +kernel
theorem dX3_weakestPlace_1 : decode cX3_weakestPlace 1 = .ok (.istore_n 1, 1) := by decide +kernel
theorem dX3_weakestPlace_2 : decode cX3_weakestPlace 2 = .ok (.aload_n 0, 1) := by decide +kernel
theorem dX3_weakestPlace_3 : decode cX3_weakestPlace 3 = .ok (.iconst 0, 1) := by decide +kernel
theorem dX3_weakestPlace_4 : decode cX3_weakestPlace 4 = .ok (.iconst 0, 1) := by decide +kernel
theorem dX3_weakestPlace_5 : decode cX3_weakestPlace 5 = .ok (.invokestatic 192, 3) := by decide +kernel
theorem dX3_weakestPlace_8 : decode cX3_weakestPlace 8 = .ok (.fstore_n 2, 1) := by decide +kernel
theorem dX3_weakestPlace_9 : decode cX3_weakestPlace 9 = .ok (.iconst 0, 1) := by decide +kernel
theorem dX3_weakestPlace_10 : decode cX3_weakestPlace 10 = .ok (.istore_n 3, 1) := by decide +kernel
theorem dX3_weakestPlace_11 : decode cX3_weakestPlace 11 = .ok (.iload_n 3, 1) := by decide +kernel
theorem dX3_weakestPlace_12 : decode cX3_weakestPlace 12 = .ok (.aload_n 0, 1) := by decide +kernel
theorem dX3_weakestPlace_13 : decode cX3_weakestPlace 13 = .ok (.getfield 113, 3) := by decide +kernel
theorem dX3_weakestPlace_16 : decode cX3_weakestPlace 16 = .ok (.if_icmp .ge 39, 3) := by decide +kernel
theorem dX3_weakestPlace_19 : decode cX3_weakestPlace 19 = .ok (.aload_n 0, 1) := by decide +kernel
theorem dX3_weakestPlace_20 : decode cX3_weakestPlace 20 = .ok (.iload_n 3, 1) := by decide +kernel
theorem dX3_weakestPlace_21 : decode cX3_weakestPlace 21 = .ok (.iconst 0, 1) := by decide +kernel
theorem dX3_weakestPlace_22 : decode cX3_weakestPlace 22 = .ok (.invokestatic 192, 3) := by decide +kernel
theorem dX3_weakestPlace_25 : decode cX3_weakestPlace 25 = .ok (.fstore 4, 2) := by decide +kernel
theorem dX3_weakestPlace_27 : decode cX3_weakestPlace 27 = .ok (.fload 4, 2) := by decide +kernel
theorem dX3_weakestPlace_29 : decode cX3_weakestPlace 29 = .ok (.fload_n 2, 1) := by decide +kernel
theorem dX3_weakestPlace_30 : decode cX3_weakestPlace 30 = .ok (.fcmp .g, 1) := by decide +kernel
theorem dX3_weakestPlace_31 : decode cX3_weakestPlace 31 = .ok (.ifCond .ge 8, 3) := by decide +kernel
theorem dX3_weakestPlace_34 : decode cX3_weakestPlace 34 = .ok (.fload 4, 2) := by decide +kernel
theorem dX3_weakestPlace_36 : decode cX3_weakestPlace 36 = .ok (.fstore_n 2, 1) := by decide +kernel
theorem dX3_weakestPlace_37 : decode cX3_weakestPlace 37 = .ok (.iload_n 3, 1) := by decide +kernel
theorem dX3_weakestPlace_38 : decode cX3_weakestPlace 38 = .ok (.istore_n 1, 1) := by decide +kernel
theorem dX3_weakestPlace_39 : decode cX3_weakestPlace 39 = .ok (.iload_n 3, 1) := by decide +kernel
theorem dX3_weakestPlace_40 : decode cX3_weakestPlace 40 = .ok (.iconst 1, 1) := by decide +kernel
theorem dX3_weakestPlace_41 : decode cX3_weakestPlace 41 = .ok (.iadd, 1) := by decide +kernel
theorem dX3_weakestPlace_42 : decode cX3_weakestPlace 42 = .ok (.aload_n 0, 1) := by decide +kernel
theorem dX3_weakestPlace_43 : decode cX3_weakestPlace 43 = .ok (.iload_n 3, 1) := by decide +kernel
theorem dX3_weakestPlace_44 : decode cX3_weakestPlace 44 = .ok (.iconst 0, 1) := by decide +kernel
theorem dX3_weakestPlace_45 : decode cX3_weakestPlace 45 = .ok (.invokestatic 213, 3) := by decide +kernel
theorem dX3_weakestPlace_48 : decode cX3_weakestPlace 48 = .ok (.invokestatic 122, 3) := by decide +kernel
theorem dX3_weakestPlace_51 : decode cX3_weakestPlace 51 = .ok (.istore_n 3, 1) := by decide +kernel
theorem dX3_weakestPlace_52 : decode cX3_weakestPlace 52 = .ok (.goto (-41), 3) := by decide +kernel
theorem dX3_weakestPlace_55 : decode cX3_weakestPlace 55 = .ok (.iload_n 1, 1) := by decide +kernel
theorem dX3_weakestPlace_56 : decode cX3_weakestPlace 56 = .ok (.ireturn, 1) := by decide +kernel
theorem dX3_leastBorne_0 : decode cX3_leastBorne 0 = .ok (.aload_n 0, 1) := by decide +kernel
theorem dX3_leastBorne_1 : decode cX3_leastBorne 1 = .ok (.aload_n 0, 1) := by decide +kernel
theorem dX3_leastBorne_2 : decode cX3_leastBorne 2 = .ok (.invokestatic 216, 3) := by decide +kernel
theorem dX3_leastBorne_5 : decode cX3_leastBorne 5 = .ok (.iconst 0, 1) := by decide +kernel
theorem dX3_leastBorne_6 : decode cX3_leastBorne 6 = .ok (.invokestatic 192, 3) := by decide +kernel
theorem dX3_leastBorne_9 : decode cX3_leastBorne 9 = .ok (.freturn, 1) := by decide +kernel
theorem dX3_bears_0 : decode cX3_bears 0 = .ok (.aload_n 0, 1) := by decide +kernel
theorem dX3_bears_1 : decode cX3_bears 1 = .ok (.iload_n 1, 1) := by decide +kernel
theorem dX3_bears_2 : decode cX3_bears 2 = .ok (.invokevirtual 152, 3) := by decide +kernel
theorem dX3_bears_5 : decode cX3_bears 5 = .ok (.astore_n 3, 1) := by decide +kernel
theorem dX3_bears_6 : decode cX3_bears 6 = .ok (.aload_n 3, 1) := by decide +kernel
theorem dX3_bears_7 : decode cX3_bears 7 = .ok (.ifnull 15, 3) := by decide +kernel
theorem dX3_bears_10 : decode cX3_bears 10 = .ok (.iload_n 2, 1) := by decide +kernel
theorem dX3_bears_11 : decode cX3_bears 11 = .ok (.ifCond .lt 11, 3) := by decide +kernel
theorem dX3_bears_14 : decode cX3_bears 14 = .ok (.iload_n 2, 1) := by decide +kernel
theorem dX3_bears_15 : decode cX3_bears 15 = .ok (.aload_n 3, 1) := by decide +kernel
theorem dX3_bears_16 : decode cX3_bears 16 = .ok (.getfield 113, 3) := by decide +kernel
theorem dX3_bears_19 : decode cX3_bears 19 = .ok (.if_icmp .lt 7, 3) := by decide +kernel
theorem dX3_bears_22 : decode cX3_bears 22 = .ok (.ldc2_w 219, 3) := by decide +kernel
theorem dX3_bears_25 : decode cX3_bears 25 = .ok (.dreturn, 1) := by decide +kernel
theorem dX3_bears_26 : decode cX3_bears 26 = .ok (.aload_n 3, 1) := by decide +kernel
theorem dX3_bears_27 : decode cX3_bears 27 = .ok (.iload_n 2, 1) := by decide +kernel
theorem dX3_bears_28 : decode cX3_bears 28 = .ok (.iconst 0, 1) := by decide +kernel
theorem dX3_bears_29 : decode cX3_bears 29 = .ok (.invokestatic 192, 3) := by decide +kernel
theorem dX3_bears_32 : decode cX3_bears 32 = .ok (.f2d, 1) := by decide +kernel
theorem dX3_bears_33 : decode cX3_bears 33 = .ok (.dreturn, 1) := by decide +kernel
theorem dX3_least_0 : decode cX3_least 0 = .ok (.aload_n 0, 1) := by decide +kernel
theorem dX3_least_1 : decode cX3_least 1 = .ok (.iload_n 1, 1) := by decide +kernel
theorem dX3_least_2 : decode cX3_least 2 = .ok (.invokevirtual 152, 3) := by decide +kernel
theorem dX3_least_5 : decode cX3_least 5 = .ok (.astore_n 2, 1) := by decide +kernel
theorem dX3_least_6 : decode cX3_least 6 = .ok (.aload_n 2, 1) := by decide +kernel
theorem dX3_least_7 : decode cX3_least 7 = .ok (.ifnonnull 9, 3) := by decide +kernel
theorem dX3_least_10 : decode cX3_least 10 = .ok (.ldc2_w 219, 3) := by decide +kernel
theorem dX3_least_13 : decode cX3_least 13 = .ok (.goto 8, 3) := by decide +kernel
theorem dX3_least_16 : decode cX3_least 16 = .ok (.aload_n 2, 1) := by decide +kernel
theorem dX3_least_17 : decode cX3_least 17 = .ok (.invokestatic 221, 3) := by decide +kernel
theorem dX3_least_20 : decode cX3_least 20 = .ok (.f2d, 1) := by decide +kernel
theorem dX3_least_21 : decode cX3_least 21 = .ok (.dreturn, 1) := by decide +kernel
theorem dX3_where_0 : decode cX3_where 0 = .ok (.aload_n 0, 1) := by decide +kernel
theorem dX3_where_1 : decode cX3_where 1 = .ok (.iload_n 1, 1) := by decide +kernel
theorem dX3_where_2 : decode cX3_where 2 = .ok (.invokevirtual 152, 3) := by decide +kernel
theorem dX3_where_5 : decode cX3_where 5 = .ok (.astore_n 2, 1) := by decide +kernel
theorem dX3_where_6 : decode cX3_where 6 = .ok (.aload_n 2, 1) := by decide +kernel
theorem dX3_where_7 : decode cX3_where 7 = .ok (.ifnonnull 8, 3) := by decide +kernel
theorem dX3_where_10 : decode cX3_where 10 = .ok (.bipush (-2), 2) := by decide +kernel
theorem dX3_where_12 : decode cX3_where 12 = .ok (.goto 7, 3) := by decide +kernel
theorem dX3_where_15 : decode cX3_where 15 = .ok (.aload_n 2, 1) := by decide +kernel
theorem dX3_where_16 : decode cX3_where 16 = .ok (.invokestatic 216, 3) := by decide +kernel
theorem dX3_where_19 : decode cX3_where 19 = .ok (.ireturn, 1) := by decide +kernel
theorem dX3_grams_0 : decode cX3_grams 0 = .ok (.aload_n 0, 1) := by decide +kernel
theorem dX3_grams_1 : decode cX3_grams 1 = .ok (.iload_n 1, 1) := by decide +kernel
theorem dX3_grams_2 : decode cX3_grams 2 = .ok (.invokevirtual 152, 3) := by decide +kernel
theorem dX3_grams_5 : decode cX3_grams 5 = .ok (.astore_n 2, 1) := by decide +kernel
theorem dX3_grams_6 : decode cX3_grams 6 = .ok (.aload_n 2, 1) := by decide +kernel
theorem dX3_grams_7 : decode cX3_grams 7 = .ok (.ifnonnull 9, 3) := by decide +kernel
theorem dX3_grams_10 : decode cX3_grams 10 = .ok (.ldc2_w 225, 3) := by decide +kernel
theorem dX3_grams_13 : decode cX3_grams 13 = .ok (.goto 11, 3) := by decide +kernel
theorem dX3_grams_16 : decode cX3_grams 16 = .ok (.aload_n 2, 1) := by decide +kernel
theorem dX3_grams_17 : decode cX3_grams 17 = .ok (.invokestatic 221, 3) := by decide +kernel
theorem dX3_grams_20 : decode cX3_grams 20 = .ok (.ldc 227, 2) := by decide +kernel
theorem dX3_grams_22 : decode cX3_grams 22 = .ok (.fmul, 1) := by decide +kernel
theorem dX3_grams_23 : decode cX3_grams 23 = .ok (.f2l, 1) := by decide +kernel
theorem dX3_grams_24 : decode cX3_grams 24 = .ok (.lreturn, 1) := by decide +kernel
theorem dX3_rest_0 : decode cX3_rest 0 = .ok (.aload_n 0, 1) := by decide +kernel
theorem dX3_rest_1 : decode cX3_rest 1 = .ok (.iload_n 1, 1) := by decide +kernel
theorem dX3_rest_2 : decode cX3_rest 2 = .ok (.invokevirtual 152, 3) := by decide +kernel
theorem dX3_rest_5 : decode cX3_rest 5 = .ok (.astore_n 3, 1) := by decide +kernel
theorem dX3_rest_6 : decode cX3_rest 6 = .ok (.aload_n 3, 1) := by decide +kernel
theorem dX3_rest_7 : decode cX3_rest 7 = .ok (.ifnull 14, 3) := by decide +kernel
theorem dX3_rest_10 : decode cX3_rest 10 = .ok (.iload_n 2, 1) := by decide +kernel
theorem dX3_rest_11 : decode cX3_rest 11 = .ok (.iconst 1, 1) := by decide +kernel
theorem dX3_rest_12 : decode cX3_rest 12 = .ok (.if_icmp .lt 9, 3) := by decide +kernel
theorem dX3_rest_15 : decode cX3_rest 15 = .ok (.iload_n 2, 1) := by decide +kernel
theorem dX3_rest_16 : decode cX3_rest 16 = .ok (.ldc 39, 2) := by decide +kernel
theorem dX3_rest_18 : decode cX3_rest 18 = .ok (.if_icmp .le 7, 3) := by decide +kernel
theorem dX3_rest_21 : decode cX3_rest 21 = .ok (.ldc2_w 219, 3) := by decide +kernel
theorem dX3_rest_24 : decode cX3_rest 24 = .ok (.dreturn, 1) := by decide +kernel
theorem dX3_rest_25 : decode cX3_rest 25 = .ok (.aload_n 3, 1) := by decide +kernel
theorem dX3_rest_26 : decode cX3_rest 26 = .ok (.invokestatic 221, 3) := by decide +kernel
theorem dX3_rest_29 : decode cX3_rest 29 = .ok (.f2d, 1) := by decide +kernel
theorem dX3_rest_30 : decode cX3_rest 30 = .ok (.iload_n 2, 1) := by decide +kernel
theorem dX3_rest_31 : decode cX3_rest 31 = .ok (.i2f, 1) := by decide +kernel
theorem dX3_rest_32 : decode cX3_rest 32 = .ok (.ldc 44, 2) := by decide +kernel
theorem dX3_rest_34 : decode cX3_rest 34 = .ok (.fmul, 1) := by decide +kernel
theorem dX3_rest_35 : decode cX3_rest 35 = .ok (.f2d, 1) := by decide +kernel
theorem dX3_rest_36 : decode cX3_rest 36 = .ok (.invokestatic 228, 3) := by decide +kernel
theorem dX3_rest_39 : decode cX3_rest 39 = .ok (.dreturn, 1) := by decide +kernel
theorem dX3_left_0 : decode cX3_left 0 = .ok (.aload_n 0, 1) := by decide +kernel
theorem dX3_left_1 : decode cX3_left 1 = .ok (.iload_n 1, 1) := by decide +kernel
theorem dX3_left_2 : decode cX3_left 2 = .ok (.invokevirtual 152, 3) := by decide +kernel
theorem dX3_left_5 : decode cX3_left 5 = .ok (.astore_n 3, 1) := by decide +kernel
theorem dX3_left_6 : decode cX3_left 6 = .ok (.aload_n 3, 1) := by decide +kernel
theorem dX3_left_7 : decode cX3_left 7 = .ok (.ifnull 14, 3) := by decide +kernel
theorem dX3_left_10 : decode cX3_left 10 = .ok (.iload_n 2, 1) := by decide +kernel
theorem dX3_left_11 : decode cX3_left 11 = .ok (.iconst 1, 1) := by decide +kernel
theorem dX3_left_12 : decode cX3_left 12 = .ok (.if_icmp .lt 9, 3) := by decide +kernel
theorem dX3_left_15 : decode cX3_left 15 = .ok (.iload_n 2, 1) := by decide +kernel
theorem dX3_left_16 : decode cX3_left 16 = .ok (.ldc 232, 2) := by decide +kernel
theorem dX3_left_18 : decode cX3_left 18 = .ok (.if_icmp .le 7, 3) := by decide +kernel
theorem dX3_left_21 : decode cX3_left 21 = .ok (.ldc2_w 219, 3) := by decide +kernel
theorem dX3_left_24 : decode cX3_left 24 = .ok (.dreturn, 1) := by decide +kernel
theorem dX3_left_25 : decode cX3_left 25 = .ok (.aload_n 3, 1) := by decide +kernel
theorem dX3_left_26 : decode cX3_left 26 = .ok (.invokestatic 221, 3) := by decide +kernel
theorem dX3_left_29 : decode cX3_left 29 = .ok (.f2d, 1) := by decide +kernel
theorem dX3_left_30 : decode cX3_left 30 = .ok (.iload_n 2, 1) := by decide +kernel
theorem dX3_left_31 : decode cX3_left 31 = .ok (.i2d, 1) := by decide +kernel
theorem dX3_left_32 : decode cX3_left 32 = .ok (.ldc2_w 233, 3) := by decide +kernel
theorem dX3_left_35 : decode cX3_left 35 = .ok (.dmul, 1) := by decide +kernel
theorem dX3_left_36 : decode cX3_left 36 = .ok (.invokestatic 228, 3) := by decide +kernel
theorem dX3_left_39 : decode cX3_left 39 = .ok (.dreturn, 1) := by decide +kernel
theorem dX3_remainder_0 : decode cX3_remainder 0 = .ok (.dload_n 2, 1) := by decide +kernel
theorem dX3_remainder_1 : decode cX3_remainder 1 = .ok (.dconst 0, 1) := by decide +kernel
theorem dX3_remainder_2 : decode cX3_remainder 2 = .ok (.dcmp .l, 1) := by decide +kernel
theorem dX3_remainder_3 : decode cX3_remainder 3 = .ok (.ifCond .gt 5, 3) := by decide +kernel
theorem dX3_remainder_6 : decode cX3_remainder 6 = .ok (.dconst 0, 1) := by decide +kernel
theorem dX3_remainder_7 : decode cX3_remainder 7 = .ok (.dreturn, 1) := by decide +kernel
theorem dX3_remainder_8 : decode cX3_remainder 8 = .ok (.dload_n 0, 1) := by decide +kernel
theorem dX3_remainder_9 : decode cX3_remainder 9 = .ok (.dload_n 2, 1) := by decide +kernel
theorem dX3_remainder_10 : decode cX3_remainder 10 = .ok (.ddiv, 1) := by decide +kernel
theorem dX3_remainder_11 : decode cX3_remainder 11 = .ok (.d2l, 1) := by decide +kernel
theorem dX3_remainder_12 : decode cX3_remainder 12 = .ok (.lstore 4, 2) := by decide +kernel
theorem dX3_remainder_14 : decode cX3_remainder 14 = .ok (.dload_n 0, 1) := by decide +kernel
theorem dX3_remainder_15 : decode cX3_remainder 15 = .ok (.lload 4, 2) := by decide +kernel
theorem dX3_remainder_17 : decode cX3_remainder 17 = .ok (.l2d, 1) := by decide +kernel
theorem dX3_remainder_18 : decode cX3_remainder 18 = .ok (.dload_n 2, 1) := by decide +kernel
theorem dX3_remainder_19 : decode cX3_remainder 19 = .ok (.dmul, 1) := by decide +kernel
theorem dX3_remainder_20 : decode cX3_remainder 20 = .ok (.dsub, 1) := by decide +kernel
theorem dX3_remainder_21 : decode cX3_remainder 21 = .ok (.dreturn, 1) := by decide +kernel
theorem dX3_turned_0 : decode cX3_turned 0 = .ok (.aload_n 0, 1) := by decide +kernel
theorem dX3_turned_1 : decode cX3_turned 1 = .ok (.iload_n 1, 1) := by decide +kernel
theorem dX3_turned_2 : decode cX3_turned 2 = .ok (.invokevirtual 152, 3) := by decide +kernel
theorem dX3_turned_5 : decode cX3_turned 5 = .ok (.astore 4, 2) := by decide +kernel
theorem dX3_turned_7 : decode cX3_turned 7 = .ok (.aload 4, 2) := by decide +kernel
theorem dX3_turned_9 : decode cX3_turned 9 = .ok (.ifnull 23, 3) := by decide +kernel
theorem dX3_turned_12 : decode cX3_turned 12 = .ok (.iload_n 2, 1) := by decide +kernel
theorem dX3_turned_13 : decode cX3_turned 13 = .ok (.ifCond .lt 19, 3) := by decide +kernel
theorem dX3_turned_16 : decode cX3_turned 16 = .ok (.iload_n 2, 1) := by decide +kernel
theorem dX3_turned_17 : decode cX3_turned 17 = .ok (.ldc 39, 2) := by decide +kernel
theorem dX3_turned_19 : decode cX3_turned 19 = .ok (.if_icmp .gt 13, 3) := by decide +kernel
theorem dX3_turned_22 : decode cX3_turned 22 = .ok (.iload_n 3, 1) := by decide +kernel
theorem dX3_turned_23 : decode cX3_turned 23 = .ok (.ifCond .lt 9, 3) := by decide +kernel
theorem dX3_turned_26 : decode cX3_turned 26 = .ok (.iload_n 3, 1) := by decide +kernel
theorem dX3_turned_27 : decode cX3_turned 27 = .ok (.bipush 12, 2) := by decide +kernel
theorem dX3_turned_29 : decode cX3_turned 29 = .ok (.if_icmp .le 7, 3) := by decide +kernel
theorem dX3_turned_32 : decode cX3_turned 32 = .ok (.ldc2_w 235, 3) := by decide +kernel
theorem dX3_turned_35 : decode cX3_turned 35 = .ok (.lreturn, 1) := by decide +kernel
theorem dX3_turned_36 : decode cX3_turned 36 = .ok (.aload 4, 2) := by decide +kernel
theorem dX3_turned_38 : decode cX3_turned 38 = .ok (.invokestatic 221, 3) := by decide +kernel
theorem dX3_turned_41 : decode cX3_turned 41 = .ok (.fstore 5, 2) := by decide +kernel
theorem dX3_turned_43 : decode cX3_turned 43 = .ok (.iload_n 3, 1) := by decide +kernel
theorem dX3_turned_44 : decode cX3_turned 44 = .ok (.bipush 8, 2) := by decide +kernel
theorem dX3_turned_46 : decode cX3_turned 46 = .ok (.if_icmp .lt 18, 3) := by decide +kernel
theorem dX3_turned_49 : decode cX3_turned 49 = .ok (.fload 5, 2) := by decide +kernel
theorem dX3_turned_51 : decode cX3_turned 51 = .ok (.iload_n 2, 1) := by decide +kernel
theorem dX3_turned_52 : decode cX3_turned 52 = .ok (.i2f, 1) := by decide +kernel
theorem dX3_turned_53 : decode cX3_turned 53 = .ok (.ldc 44, 2) := by decide +kernel
theorem dX3_turned_55 : decode cX3_turned 55 = .ok (.fmul, 1) := by decide +kernel
theorem dX3_turned_56 : decode cX3_turned 56 = .ok (.fsub, 1) := by decide +kernel
theorem dX3_turned_57 : decode cX3_turned 57 = .ok (.iload_n 3, 1) := by decide +kernel
theorem dX3_turned_58 : decode cX3_turned 58 = .ok (.iconst 5, 1) := by decide +kernel
theorem dX3_turned_59 : decode cX3_turned 59 = .ok (.isub, 1) := by decide +kernel
theorem dX3_turned_60 : decode cX3_turned 60 = .ok (.invokestatic 237, 3) := by decide +kernel
theorem dX3_turned_63 : decode cX3_turned 63 = .ok (.lreturn, 1) := by decide +kernel
theorem dX3_turned_64 : decode cX3_turned 64 = .ok (.fload 5, 2) := by decide +kernel
theorem dX3_turned_66 : decode cX3_turned 66 = .ok (.f2d, 1) := by decide +kernel
theorem dX3_turned_67 : decode cX3_turned 67 = .ok (.iload_n 2, 1) := by decide +kernel
theorem dX3_turned_68 : decode cX3_turned 68 = .ok (.i2d, 1) := by decide +kernel
theorem dX3_turned_69 : decode cX3_turned 69 = .ok (.ldc2_w 241, 3) := by decide +kernel
theorem dX3_turned_72 : decode cX3_turned 72 = .ok (.dmul, 1) := by decide +kernel
theorem dX3_turned_73 : decode cX3_turned 73 = .ok (.dsub, 1) := by decide +kernel
theorem dX3_turned_74 : decode cX3_turned 74 = .ok (.iload_n 3, 1) := by decide +kernel
theorem dX3_turned_75 : decode cX3_turned 75 = .ok (.invokestatic 243, 3) := by decide +kernel
theorem dX3_turned_78 : decode cX3_turned 78 = .ok (.lreturn, 1) := by decide +kernel
theorem dX3_turnedDouble_0 : decode cX3_turnedDouble 0 = .ok (.iload_n 2, 1) := by decide +kernel
theorem dX3_turnedDouble_1 : decode cX3_turnedDouble 1 = .ok (.tableswitch 159 0 6 #[43, 48, 55, 75, 99, 117, 138], 43) := by decide +kernel
theorem dX3_turnedDouble_44 : decode cX3_turnedDouble 44 = .ok (.dload_n 0, 1) := by decide +kernel
theorem dX3_turnedDouble_45 : decode cX3_turnedDouble 45 = .ok (.invokestatic 247, 3) := by decide +kernel
theorem dX3_turnedDouble_48 : decode cX3_turnedDouble 48 = .ok (.lreturn, 1) := by decide +kernel
theorem dX3_turnedDouble_49 : decode cX3_turnedDouble 49 = .ok (.dload_n 0, 1) := by decide +kernel
theorem dX3_turnedDouble_50 : decode cX3_turnedDouble 50 = .ok (.dneg, 1) := by decide +kernel
theorem dX3_turnedDouble_51 : decode cX3_turnedDouble 51 = .ok (.invokestatic 247, 3) := by decide +kernel
theorem dX3_turnedDouble_54 : decode cX3_turnedDouble 54 = .ok (.lneg, 1) := by decide +kernel
theorem dX3_turnedDouble_55 : decode cX3_turnedDouble 55 = .ok (.lreturn, 1) := by decide +kernel
theorem dX3_turnedDouble_56 : decode cX3_turnedDouble 56 = .ok (.dload_n 0, 1) := by decide +kernel
theorem dX3_turnedDouble_57 : decode cX3_turnedDouble 57 = .ok (.dconst 0, 1) := by decide +kernel
theorem dX3_turnedDouble_58 : decode cX3_turnedDouble 58 = .ok (.dcmp .g, 1) := by decide +kernel
theorem dX3_turnedDouble_59 : decode cX3_turnedDouble 59 = .ok (.ifCond .ge 12, 3) := by decide +kernel
theorem dX3_turnedDouble_62 : decode cX3_turnedDouble 62 = .ok (.dload_n 0, 1) := by decide +kernel
theorem dX3_turnedDouble_63 : decode cX3_turnedDouble 63 = .ok (.dneg, 1) := by decide +kernel
theorem dX3_turnedDouble_64 : decode cX3_turnedDouble 64 = .ok (.invokestatic 251, 3) := by decide +kernel
theorem dX3_turnedDouble_67 : decode cX3_turnedDouble 67 = .ok (.lneg, 1) := by decide +kernel
theorem dX3_turnedDouble_68 : decode cX3_turnedDouble 68 = .ok (.goto 7, 3) := by decide +kernel
theorem dX3_turnedDouble_71 : decode cX3_turnedDouble 71 = .ok (.dload_n 0, 1) := by decide +kernel
theorem dX3_turnedDouble_72 : decode cX3_turnedDouble 72 = .ok (.invokestatic 251, 3) := by decide +kernel
theorem dX3_turnedDouble_75 : decode cX3_turnedDouble 75 = .ok (.lreturn, 1) := by decide +kernel
theorem dX3_turnedDouble_76 : decode cX3_turnedDouble 76 = .ok (.dload_n 0, 1) := by decide +kernel
theorem dX3_turnedDouble_77 : decode cX3_turnedDouble 77 = .ok (.dconst 0, 1) := by decide +kernel
theorem dX3_turnedDouble_78 : decode cX3_turnedDouble 78 = .ok (.dcmp .g, 1) := by decide +kernel
theorem dX3_turnedDouble_79 : decode cX3_turnedDouble 79 = .ok (.ifCond .ge 9, 3) := by decide +kernel
theorem dX3_turnedDouble_82 : decode cX3_turnedDouble 82 = .ok (.ldc2_w 254, 3) := by decide +kernel
theorem dX3_turnedDouble_85 : decode cX3_turnedDouble 85 = .ok (.goto 14, 3) := by decide +kernel
theorem dX3_turnedDouble_88 : decode cX3_turnedDouble 88 = .ok (.dload_n 0, 1) := by decide +kernel
theorem dX3_turnedDouble_89 : decode cX3_turnedDouble 89 = .ok (.dconst 0, 1) := by decide +kernel
theorem dX3_turnedDouble_90 : decode cX3_turnedDouble 90 = .ok (.dcmp .l, 1) := by decide +kernel
theorem dX3_turnedDouble_91 : decode cX3_turnedDouble 91 = .ok (.ifCond .le 7, 3) := by decide +kernel
theorem dX3_turnedDouble_94 : decode cX3_turnedDouble 94 = .ok (.lconst 1, 1) := by decide +kernel
theorem dX3_turnedDouble_95 : decode cX3_turnedDouble 95 = .ok (.goto 4, 3) := by decide +kernel
theorem dX3_turnedDouble_98 : decode cX3_turnedDouble 98 = .ok (.lconst 0, 1) := by decide +kernel
theorem dX3_turnedDouble_99 : decode cX3_turnedDouble 99 = .ok (.lreturn, 1) := by decide +kernel
theorem dX3_turnedDouble_100 : decode cX3_turnedDouble 100 = .ok (.ldc2_w 256, 3) := by decide +kernel
theorem dX3_turnedDouble_103 : decode cX3_turnedDouble 103 = .ok (.dload_n 0, 1) := by decide +kernel
theorem dX3_turnedDouble_104 : decode cX3_turnedDouble 104 = .ok (.dconst 0, 1) := by decide +kernel
theorem dX3_turnedDouble_105 : decode cX3_turnedDouble 105 = .ok (.dcmp .g, 1) := by decide +kernel
theorem dX3_turnedDouble_106 : decode cX3_turnedDouble 106 = .ok (.ifCond .ge 8, 3) := by decide +kernel
theorem dX3_turnedDouble_109 : decode cX3_turnedDouble 109 = .ok (.dload_n 0, 1) := by decide +kernel
theorem dX3_turnedDouble_110 : decode cX3_turnedDouble 110 = .ok (.dneg, 1) := by decide +kernel
theorem dX3_turnedDouble_111 : decode cX3_turnedDouble 111 = .ok (.goto 4, 3) := by decide +kernel
theorem dX3_turnedDouble_114 : decode cX3_turnedDouble 114 = .ok (.dload_n 0, 1) := by decide +kernel
theorem dX3_turnedDouble_115 : decode cX3_turnedDouble 115 = .ok (.dmul, 1) := by decide +kernel
theorem dX3_turnedDouble_116 : decode cX3_turnedDouble 116 = .ok (.d2l, 1) := by decide +kernel
theorem dX3_turnedDouble_117 : decode cX3_turnedDouble 117 = .ok (.lreturn, 1) := by decide +kernel
theorem dX3_turnedDouble_118 : decode cX3_turnedDouble 118 = .ok (.ldc2_w 256, 3) := by decide +kernel
theorem dX3_turnedDouble_121 : decode cX3_turnedDouble 121 = .ok (.dload_n 0, 1) := by decide +kernel
theorem dX3_turnedDouble_122 : decode cX3_turnedDouble 122 = .ok (.ldc2_w 258, 3) := by decide +kernel
theorem dX3_turnedDouble_125 : decode cX3_turnedDouble 125 = .ok (.dcmp .l, 1) := by decide +kernel
theorem dX3_turnedDouble_126 : decode cX3_turnedDouble 126 = .ok (.ifCond .le 7, 3) := by decide +kernel
theorem dX3_turnedDouble_129 : decode cX3_turnedDouble 129 = .ok (.dload_n 0, 1) := by decide +kernel
theorem dX3_turnedDouble_130 : decode cX3_turnedDouble 130 = .ok (.goto 6, 3) := by decide +kernel
theorem dX3_turnedDouble_133 : decode cX3_turnedDouble 133 = .ok (.ldc2_w 258, 3) := by decide +kernel
theorem dX3_turnedDouble_136 : decode cX3_turnedDouble 136 = .ok (.dmul, 1) := by decide +kernel
theorem dX3_turnedDouble_137 : decode cX3_turnedDouble 137 = .ok (.d2l, 1) := by decide +kernel
theorem dX3_turnedDouble_138 : decode cX3_turnedDouble 138 = .ok (.lreturn, 1) := by decide +kernel
theorem dX3_turnedDouble_139 : decode cX3_turnedDouble 139 = .ok (.ldc2_w 256, 3) := by decide +kernel
theorem dX3_turnedDouble_142 : decode cX3_turnedDouble 142 = .ok (.dload_n 0, 1) := by decide +kernel
theorem dX3_turnedDouble_143 : decode cX3_turnedDouble 143 = .ok (.ldc2_w 258, 3) := by decide +kernel
theorem dX3_turnedDouble_146 : decode cX3_turnedDouble 146 = .ok (.dcmp .g, 1) := by decide +kernel
theorem dX3_turnedDouble_147 : decode cX3_turnedDouble 147 = .ok (.ifCond .ge 7, 3) := by decide +kernel
theorem dX3_turnedDouble_150 : decode cX3_turnedDouble 150 = .ok (.dload_n 0, 1) := by decide +kernel
theorem dX3_turnedDouble_151 : decode cX3_turnedDouble 151 = .ok (.goto 6, 3) := by decide +kernel
theorem dX3_turnedDouble_154 : decode cX3_turnedDouble 154 = .ok (.ldc2_w 258, 3) := by decide +kernel
theorem dX3_turnedDouble_157 : decode cX3_turnedDouble 157 = .ok (.dmul, 1) := by decide +kernel
theorem dX3_turnedDouble_158 : decode cX3_turnedDouble 158 = .ok (.d2l, 1) := by decide +kernel
theorem dX3_turnedDouble_159 : decode cX3_turnedDouble 159 = .ok (.lreturn, 1) := by decide +kernel
theorem dX3_turnedDouble_160 : decode cX3_turnedDouble 160 = .ok (.dload_n 0, 1) := by decide +kernel
theorem dX3_turnedDouble_161 : decode cX3_turnedDouble 161 = .ok (.dconst 0, 1) := by decide +kernel
theorem dX3_turnedDouble_162 : decode cX3_turnedDouble 162 = .ok (.dcmp .g, 1) := by decide +kernel
theorem dX3_turnedDouble_163 : decode cX3_turnedDouble 163 = .ok (.ifCond .ge 9, 3) := by decide +kernel
theorem dX3_turnedDouble_166 : decode cX3_turnedDouble 166 = .ok (.ldc2_w 225, 3) := by decide +kernel
theorem dX3_turnedDouble_169 : decode cX3_turnedDouble 169 = .ok (.goto 6, 3) := by decide +kernel
theorem dX3_turnedDouble_172 : decode cX3_turnedDouble 172 = .ok (.ldc2_w 260, 3) := by decide +kernel
theorem dX3_turnedDouble_175 : decode cX3_turnedDouble 175 = .ok (.lreturn, 1) := by decide +kernel
theorem dX3_turnedFloat_0 : decode cX3_turnedFloat 0 = .ok (.iload_n 1, 1) := by decide +kernel
theorem dX3_turnedFloat_1 : decode cX3_turnedFloat 1 = .ok (.tableswitch 115 3 6 #[31, 55, 73, 94], 31) := by decide +kernel
theorem dX3_turnedFloat_32 : decode cX3_turnedFloat 32 = .ok (.fload_n 0, 1) := by decide +kernel
theorem dX3_turnedFloat_33 : decode cX3_turnedFloat 33 = .ok (.fconst 0, 1) := by decide +kernel
theorem dX3_turnedFloat_34 : decode cX3_turnedFloat 34 = .ok (.fcmp .g, 1) := by decide +kernel
theorem dX3_turnedFloat_35 : decode cX3_turnedFloat 35 = .ok (.ifCond .ge 9, 3) := by decide +kernel
theorem dX3_turnedFloat_38 : decode cX3_turnedFloat 38 = .ok (.ldc2_w 254, 3) := by decide +kernel
theorem dX3_turnedFloat_41 : decode cX3_turnedFloat 41 = .ok (.goto 14, 3) := by decide +kernel
theorem dX3_turnedFloat_44 : decode cX3_turnedFloat 44 = .ok (.fload_n 0, 1) := by decide +kernel
theorem dX3_turnedFloat_45 : decode cX3_turnedFloat 45 = .ok (.fconst 0, 1) := by decide +kernel
theorem dX3_turnedFloat_46 : decode cX3_turnedFloat 46 = .ok (.fcmp .l, 1) := by decide +kernel
theorem dX3_turnedFloat_47 : decode cX3_turnedFloat 47 = .ok (.ifCond .le 7, 3) := by decide +kernel
theorem dX3_turnedFloat_50 : decode cX3_turnedFloat 50 = .ok (.lconst 1, 1) := by decide +kernel
theorem dX3_turnedFloat_51 : decode cX3_turnedFloat 51 = .ok (.goto 4, 3) := by decide +kernel
theorem dX3_turnedFloat_54 : decode cX3_turnedFloat 54 = .ok (.lconst 0, 1) := by decide +kernel
theorem dX3_turnedFloat_55 : decode cX3_turnedFloat 55 = .ok (.lreturn, 1) := by decide +kernel
theorem dX3_turnedFloat_56 : decode cX3_turnedFloat 56 = .ok (.ldc_w 262, 3) := by decide +kernel
theorem dX3_turnedFloat_59 : decode cX3_turnedFloat 59 = .ok (.fload_n 0, 1) := by decide +kernel
theorem dX3_turnedFloat_60 : decode cX3_turnedFloat 60 = .ok (.fconst 0, 1) := by decide +kernel
theorem dX3_turnedFloat_61 : decode cX3_turnedFloat 61 = .ok (.fcmp .g, 1) := by decide +kernel
theorem dX3_turnedFloat_62 : decode cX3_turnedFloat 62 = .ok (.ifCond .ge 8, 3) := by decide +kernel
theorem dX3_turnedFloat_65 : decode cX3_turnedFloat 65 = .ok (.fload_n 0, 1) := by decide +kernel
theorem dX3_turnedFloat_66 : decode cX3_turnedFloat 66 = .ok (.fneg, 1) := by decide +kernel
theorem dX3_turnedFloat_67 : decode cX3_turnedFloat 67 = .ok (.goto 4, 3) := by decide +kernel
theorem dX3_turnedFloat_70 : decode cX3_turnedFloat 70 = .ok (.fload_n 0, 1) := by decide +kernel
theorem dX3_turnedFloat_71 : decode cX3_turnedFloat 71 = .ok (.fmul, 1) := by decide +kernel
theorem dX3_turnedFloat_72 : decode cX3_turnedFloat 72 = .ok (.f2l, 1) := by decide +kernel
theorem dX3_turnedFloat_73 : decode cX3_turnedFloat 73 = .ok (.lreturn, 1) := by decide +kernel
theorem dX3_turnedFloat_74 : decode cX3_turnedFloat 74 = .ok (.ldc_w 262, 3) := by decide +kernel
theorem dX3_turnedFloat_77 : decode cX3_turnedFloat 77 = .ok (.fload_n 0, 1) := by decide +kernel
theorem dX3_turnedFloat_78 : decode cX3_turnedFloat 78 = .ok (.ldc_w 263, 3) := by decide +kernel
theorem dX3_turnedFloat_81 : decode cX3_turnedFloat 81 = .ok (.fcmp .l, 1) := by decide +kernel
theorem dX3_turnedFloat_82 : decode cX3_turnedFloat 82 = .ok (.ifCond .le 7, 3) := by decide +kernel
theorem dX3_turnedFloat_85 : decode cX3_turnedFloat 85 = .ok (.fload_n 0, 1) := by decide +kernel
theorem dX3_turnedFloat_86 : decode cX3_turnedFloat 86 = .ok (.goto 6, 3) := by decide +kernel
theorem dX3_turnedFloat_89 : decode cX3_turnedFloat 89 = .ok (.ldc_w 263, 3) := by decide +kernel
theorem dX3_turnedFloat_92 : decode cX3_turnedFloat 92 = .ok (.fmul, 1) := by decide +kernel
theorem dX3_turnedFloat_93 : decode cX3_turnedFloat 93 = .ok (.f2l, 1) := by decide +kernel
theorem dX3_turnedFloat_94 : decode cX3_turnedFloat 94 = .ok (.lreturn, 1) := by decide +kernel
theorem dX3_turnedFloat_95 : decode cX3_turnedFloat 95 = .ok (.ldc_w 262, 3) := by decide +kernel
theorem dX3_turnedFloat_98 : decode cX3_turnedFloat 98 = .ok (.fload_n 0, 1) := by decide +kernel
theorem dX3_turnedFloat_99 : decode cX3_turnedFloat 99 = .ok (.ldc_w 263, 3) := by decide +kernel
theorem dX3_turnedFloat_102 : decode cX3_turnedFloat 102 = .ok (.fcmp .g, 1) := by decide +kernel
theorem dX3_turnedFloat_103 : decode cX3_turnedFloat 103 = .ok (.ifCond .ge 7, 3) := by decide +kernel
theorem dX3_turnedFloat_106 : decode cX3_turnedFloat 106 = .ok (.fload_n 0, 1) := by decide +kernel
theorem dX3_turnedFloat_107 : decode cX3_turnedFloat 107 = .ok (.goto 6, 3) := by decide +kernel
theorem dX3_turnedFloat_110 : decode cX3_turnedFloat 110 = .ok (.ldc_w 263, 3) := by decide +kernel
theorem dX3_turnedFloat_113 : decode cX3_turnedFloat 113 = .ok (.fmul, 1) := by decide +kernel
theorem dX3_turnedFloat_114 : decode cX3_turnedFloat 114 = .ok (.f2l, 1) := by decide +kernel
theorem dX3_turnedFloat_115 : decode cX3_turnedFloat 115 = .ok (.lreturn, 1) := by decide +kernel
theorem dX3_turnedFloat_116 : decode cX3_turnedFloat 116 = .ok (.fload_n 0, 1) := by decide +kernel
theorem dX3_turnedFloat_117 : decode cX3_turnedFloat 117 = .ok (.fconst 0, 1) := by decide +kernel
theorem dX3_turnedFloat_118 : decode cX3_turnedFloat 118 = .ok (.fcmp .g, 1) := by decide +kernel
theorem dX3_turnedFloat_119 : decode cX3_turnedFloat 119 = .ok (.ifCond .ge 9, 3) := by decide +kernel
theorem dX3_turnedFloat_122 : decode cX3_turnedFloat 122 = .ok (.ldc2_w 225, 3) := by decide +kernel
theorem dX3_turnedFloat_125 : decode cX3_turnedFloat 125 = .ok (.goto 6, 3) := by decide +kernel
theorem dX3_turnedFloat_128 : decode cX3_turnedFloat 128 = .ok (.ldc2_w 260, 3) := by decide +kernel
theorem dX3_turnedFloat_131 : decode cX3_turnedFloat 131 = .ok (.lreturn, 1) := by decide +kernel
theorem dX3_notAbove_0 : decode cX3_notAbove 0 = .ok (.dload_n 0, 1) := by decide +kernel
theorem dX3_notAbove_1 : decode cX3_notAbove 1 = .ok (.d2l, 1) := by decide +kernel
theorem dX3_notAbove_2 : decode cX3_notAbove 2 = .ok (.lstore_n 2, 1) := by decide +kernel
theorem dX3_notAbove_3 : decode cX3_notAbove 3 = .ok (.lload_n 2, 1) := by decide +kernel
theorem dX3_notAbove_4 : decode cX3_notAbove 4 = .ok (.l2d, 1) := by decide +kernel
theorem dX3_notAbove_5 : decode cX3_notAbove 5 = .ok (.dload_n 0, 1) := by decide +kernel
theorem dX3_notAbove_6 : decode cX3_notAbove 6 = .ok (.dcmp .l, 1) := by decide +kernel
theorem dX3_notAbove_7 : decode cX3_notAbove 7 = .ok (.ifCond .le 9, 3) := by decide +kernel
theorem dX3_notAbove_10 : decode cX3_notAbove 10 = .ok (.lload_n 2, 1) := by decide +kernel
theorem dX3_notAbove_11 : decode cX3_notAbove 11 = .ok (.lconst 1, 1) := by decide +kernel
theorem dX3_notAbove_12 : decode cX3_notAbove 12 = .ok (.lsub, 1) := by decide +kernel
theorem dX3_notAbove_13 : decode cX3_notAbove 13 = .ok (.goto 4, 3) := by decide +kernel
theorem dX3_notAbove_16 : decode cX3_notAbove 16 = .ok (.lload_n 2, 1) := by decide +kernel
theorem dX3_notAbove_17 : decode cX3_notAbove 17 = .ok (.lreturn, 1) := by decide +kernel
theorem dX3_nearest_0 : decode cX3_nearest 0 = .ok (.dload_n 0, 1) := by decide +kernel
theorem dX3_nearest_1 : decode cX3_nearest 1 = .ok (.d2l, 1) := by decide +kernel
theorem dX3_nearest_2 : decode cX3_nearest 2 = .ok (.lstore_n 2, 1) := by decide +kernel
theorem dX3_nearest_3 : decode cX3_nearest 3 = .ok (.dload_n 0, 1) := by decide +kernel
theorem dX3_nearest_4 : decode cX3_nearest 4 = .ok (.lload_n 2, 1) := by decide +kernel
theorem dX3_nearest_5 : decode cX3_nearest 5 = .ok (.l2d, 1) := by decide +kernel
theorem dX3_nearest_6 : decode cX3_nearest 6 = .ok (.dsub, 1) := by decide +kernel
theorem dX3_nearest_7 : decode cX3_nearest 7 = .ok (.dstore 4, 2) := by decide +kernel
theorem dX3_nearest_9 : decode cX3_nearest 9 = .ok (.dload 4, 2) := by decide +kernel
theorem dX3_nearest_11 : decode cX3_nearest 11 = .ok (.ldc2_w 264, 3) := by decide +kernel
theorem dX3_nearest_14 : decode cX3_nearest 14 = .ok (.dcmp .l, 1) := by decide +kernel
theorem dX3_nearest_15 : decode cX3_nearest 15 = .ok (.ifCond .gt 20, 3) := by decide +kernel
theorem dX3_nearest_18 : decode cX3_nearest 18 = .ok (.dload 4, 2) := by decide +kernel
theorem dX3_nearest_20 : decode cX3_nearest 20 = .ok (.ldc2_w 264, 3) := by decide +kernel
theorem dX3_nearest_23 : decode cX3_nearest 23 = .ok (.dcmp .l, 1) := by decide +kernel
theorem dX3_nearest_24 : decode cX3_nearest 24 = .ok (.ifCond .ne 15, 3) := by decide +kernel
theorem dX3_nearest_27 : decode cX3_nearest 27 = .ok (.lload_n 2, 1) := by decide +kernel
theorem dX3_nearest_28 : decode cX3_nearest 28 = .ok (.lconst 1, 1) := by decide +kernel
theorem dX3_nearest_29 : decode cX3_nearest 29 = .ok (.land, 1) := by decide +kernel
theorem dX3_nearest_30 : decode cX3_nearest 30 = .ok (.lconst 1, 1) := by decide +kernel
theorem dX3_nearest_31 : decode cX3_nearest 31 = .ok (.lcmp, 1) := by decide +kernel
theorem dX3_nearest_32 : decode cX3_nearest 32 = .ok (.ifCond .ne 7, 3) := by decide +kernel
theorem dX3_nearest_35 : decode cX3_nearest 35 = .ok (.iconst 1, 1) := by decide +kernel
theorem dX3_nearest_36 : decode cX3_nearest 36 = .ok (.goto 4, 3) := by decide +kernel
theorem dX3_nearest_39 : decode cX3_nearest 39 = .ok (.iconst 0, 1) := by decide +kernel
theorem dX3_nearest_40 : decode cX3_nearest 40 = .ok (.istore 6, 2) := by decide +kernel
theorem dX3_nearest_42 : decode cX3_nearest 42 = .ok (.iload 6, 2) := by decide +kernel
theorem dX3_nearest_44 : decode cX3_nearest 44 = .ok (.ifCond .eq 9, 3) := by decide +kernel
theorem dX3_nearest_47 : decode cX3_nearest 47 = .ok (.lload_n 2, 1) := by decide +kernel
theorem dX3_nearest_48 : decode cX3_nearest 48 = .ok (.lconst 1, 1) := by decide +kernel
theorem dX3_nearest_49 : decode cX3_nearest 49 = .ok (.ladd, 1) := by decide +kernel
theorem dX3_nearest_50 : decode cX3_nearest 50 = .ok (.goto 4, 3) := by decide +kernel
theorem dX3_nearest_53 : decode cX3_nearest 53 = .ok (.lload_n 2, 1) := by decide +kernel
theorem dX3_nearest_54 : decode cX3_nearest 54 = .ok (.lreturn, 1) := by decide +kernel
theorem dX3_isReel_0 : decode cX3_isReel 0 = .ok (.iload_n 0, 1) := by decide +kernel
theorem dX3_isReel_1 : decode cX3_isReel 1 = .ok (.ifCond .lt 13, 3) := by decide +kernel
theorem dX3_isReel_4 : decode cX3_isReel 4 = .ok (.iload_n 0, 1) := by decide +kernel
theorem dX3_isReel_5 : decode cX3_isReel 5 = .ok (.bipush 6, 2) := by decide +kernel
theorem dX3_isReel_7 : decode cX3_isReel 7 = .ok (.if_icmp .ge 7, 3) := by decide +kernel
theorem dX3_isReel_10 : decode cX3_isReel 10 = .ok (.iconst 1, 1) := by decide +kernel
theorem dX3_isReel_11 : decode cX3_isReel 11 = .ok (.goto 4, 3) := by decide +kernel
theorem dX3_isReel_14 : decode cX3_isReel 14 = .ok (.iconst 0, 1) := by decide +kernel
theorem dX3_isReel_15 : decode cX3_isReel 15 = .ok (.ireturn, 1) := by decide +kernel
theorem dX3_hang_0 : decode cX3_hang 0 = .ok (.aload_n 0, 1) := by decide +kernel
theorem dX3_hang_1 : decode cX3_hang 1 = .ok (.iload_n 2, 1) := by decide +kernel
theorem dX3_hang_2 : decode cX3_hang 2 = .ok (.invokevirtual 70, 3) := by decide +kernel
theorem dX3_hang_5 : decode cX3_hang 5 = .ok (.astore_n 3, 1) := by decide +kernel
theorem dX3_hang_6 : decode cX3_hang 6 = .ok (.aload_n 3, 1) := by decide +kernel
theorem dX3_hang_7 : decode cX3_hang 7 = .ok (.ifnonnull 6, 3) := by decide +kernel
theorem dX3_hang_10 : decode cX3_hang 10 = .ok (.bipush (-2), 2) := by decide +kernel
theorem dX3_hang_12 : decode cX3_hang 12 = .ok (.ireturn, 1) := by decide +kernel
theorem dX3_hang_13 : decode cX3_hang 13 = .ok (.iload_n 1, 1) := by decide +kernel
theorem dX3_hang_14 : decode cX3_hang 14 = .ok (.invokestatic 266, 3) := by decide +kernel
theorem dX3_hang_17 : decode cX3_hang 17 = .ok (.ifCond .ne 6, 3) := by decide +kernel
theorem dX3_hang_20 : decode cX3_hang 20 = .ok (.bipush (-11), 2) := by decide +kernel
theorem dX3_hang_22 : decode cX3_hang 22 = .ok (.ireturn, 1) := by decide +kernel
theorem dX3_hang_23 : decode cX3_hang 23 = .ok (.aload_n 0, 1) := by decide +kernel
theorem dX3_hang_24 : decode cX3_hang 24 = .ok (.getfield 20, 3) := by decide +kernel
theorem dX3_hang_27 : decode cX3_hang 27 = .ok (.iload_n 1, 1) := by decide +kernel
theorem dX3_hang_28 : decode cX3_hang 28 = .ok (.aaload, 1) := by decide +kernel
theorem dX3_hang_29 : decode cX3_hang 29 = .ok (.getfield 270, 3) := by decide +kernel
theorem dX3_hang_32 : decode cX3_hang 32 = .ok (.ifnull 6, 3) := by decide +kernel
theorem dX3_hang_35 : decode cX3_hang 35 = .ok (.bipush (-2), 2) := by decide +kernel
theorem dX3_hang_37 : decode cX3_hang 37 = .ok (.ireturn, 1) := by decide +kernel
theorem dX3_hang_38 : decode cX3_hang 38 = .ok (.aload_n 0, 1) := by decide +kernel
theorem dX3_hang_39 : decode cX3_hang 39 = .ok (.getfield 20, 3) := by decide +kernel
theorem dX3_hang_42 : decode cX3_hang 42 = .ok (.iload_n 1, 1) := by decide +kernel
theorem dX3_hang_43 : decode cX3_hang 43 = .ok (.aaload, 1) := by decide +kernel
theorem dX3_hang_44 : decode cX3_hang 44 = .ok (.aload_n 3, 1) := by decide +kernel
theorem dX3_hang_45 : decode cX3_hang 45 = .ok (.putfield 270, 3) := by decide +kernel
theorem dX3_hang_48 : decode cX3_hang 48 = .ok (.aload_n 3, 1) := by decide +kernel
theorem dX3_hang_49 : decode cX3_hang 49 = .ok (.iconst 2, 1) := by decide +kernel
theorem dX3_hang_50 : decode cX3_hang 50 = .ok (.putfield 67, 3) := by decide +kernel
theorem dX3_hang_53 : decode cX3_hang 53 = .ok (.aload_n 3, 1) := by decide +kernel
theorem dX3_hang_54 : decode cX3_hang 54 = .ok (.getfield 113, 3) := by decide +kernel
theorem dX3_hang_57 : decode cX3_hang 57 = .ok (.ireturn, 1) := by decide +kernel
theorem dX3_off_0 : decode cX3_off 0 = .ok (.iload_n 1, 1) := by decide +kernel
theorem dX3_off_1 : decode cX3_off 1 = .ok (.invokestatic 266, 3) := by decide +kernel
theorem dX3_off_4 : decode cX3_off 4 = .ok (.ifCond .ne 6, 3) := by decide +kernel
theorem dX3_off_7 : decode cX3_off 7 = .ok (.bipush (-11), 2) := by decide +kernel
theorem dX3_off_9 : decode cX3_off 9 = .ok (.ireturn, 1) := by decide +kernel
theorem dX3_off_10 : decode cX3_off 10 = .ok (.aload_n 0, 1) := by decide +kernel
theorem dX3_off_11 : decode cX3_off 11 = .ok (.getfield 20, 3) := by decide +kernel
theorem dX3_off_14 : decode cX3_off 14 = .ok (.iload_n 1, 1) := by decide +kernel
theorem dX3_off_15 : decode cX3_off 15 = .ok (.aaload, 1) := by decide +kernel
theorem dX3_off_16 : decode cX3_off 16 = .ok (.getfield 270, 3) := by decide +kernel
theorem dX3_off_19 : decode cX3_off 19 = .ok (.astore_n 2, 1) := by decide +kernel
theorem dX3_off_20 : decode cX3_off 20 = .ok (.aload_n 2, 1) := by decide +kernel
theorem dX3_off_21 : decode cX3_off 21 = .ok (.ifnonnull 6, 3) := by decide +kernel
theorem dX3_off_24 : decode cX3_off 24 = .ok (.bipush (-10), 2) := by decide +kernel
theorem dX3_off_26 : decode cX3_off 26 = .ok (.ireturn, 1) := by decide +kernel
theorem dX3_off_27 : decode cX3_off 27 = .ok (.aload_n 0, 1) := by decide +kernel
theorem dX3_off_28 : decode cX3_off 28 = .ok (.iload_n 1, 1) := by decide +kernel
theorem dX3_off_29 : decode cX3_off 29 = .ok (.invokevirtual 274, 3) := by decide +kernel
theorem dX3_off_32 : decode cX3_off 32 = .ok (.ifCond .eq 6, 3) := by decide +kernel
theorem dX3_off_35 : decode cX3_off 35 = .ok (.bipush (-2), 2) := by decide +kernel
theorem dX3_off_37 : decode cX3_off 37 = .ok (.ireturn, 1) := by decide +kernel
theorem dX3_off_38 : decode cX3_off 38 = .ok (.aload_n 0, 1) := by decide +kernel
theorem dX3_off_39 : decode cX3_off 39 = .ok (.getfield 20, 3) := by decide +kernel
theorem dX3_off_42 : decode cX3_off 42 = .ok (.iload_n 1, 1) := by decide +kernel
theorem dX3_off_43 : decode cX3_off 43 = .ok (.aaload, 1) := by decide +kernel
theorem dX3_off_44 : decode cX3_off 44 = .ok (.aconst_null, 1) := by decide +kernel
theorem dX3_off_45 : decode cX3_off 45 = .ok (.putfield 270, 3) := by decide +kernel
theorem dX3_off_48 : decode cX3_off 48 = .ok (.aload_n 2, 1) := by decide +kernel
theorem dX3_off_49 : decode cX3_off 49 = .ok (.iconst 0, 1) := by decide +kernel
theorem dX3_off_50 : decode cX3_off 50 = .ok (.putfield 67, 3) := by decide +kernel
theorem dX3_off_53 : decode cX3_off 53 = .ok (.aload_n 2, 1) := by decide +kernel
theorem dX3_off_54 : decode cX3_off 54 = .ok (.getfield 60, 3) := by decide +kernel
theorem dX3_off_57 : decode cX3_off 57 = .ok (.ireturn, 1) := by decide +kernel
theorem dX3_take_0 : decode cX3_take 0 = .ok (.iload_n 2, 1) := by decide +kernel
theorem dX3_take_1 : decode cX3_take 1 = .ok (.ifCond .lt 9, 3) := by decide +kernel
theorem dX3_take_4 : decode cX3_take 4 = .ok (.iload_n 2, 1) := by decide +kernel
theorem dX3_take_5 : decode cX3_take 5 = .ok (.bipush 6, 2) := by decide +kernel
theorem dX3_take_7 : decode cX3_take 7 = .ok (.if_icmp .lt 6, 3) := by decide +kernel
theorem dX3_take_10 : decode cX3_take 10 = .ok (.bipush (-2), 2) := by decide +kernel
theorem dX3_take_12 : decode cX3_take 12 = .ok (.ireturn, 1) := by decide +kernel
theorem dX3_take_13 : decode cX3_take 13 = .ok (.iload_n 1, 1) := by decide +kernel
theorem dX3_take_14 : decode cX3_take 14 = .ok (.invokestatic 266, 3) := by decide +kernel
theorem dX3_take_17 : decode cX3_take 17 = .ok (.ifCond .ne 6, 3) := by decide +kernel
theorem dX3_take_20 : decode cX3_take 20 = .ok (.bipush (-11), 2) := by decide +kernel
theorem dX3_take_22 : decode cX3_take 22 = .ok (.ireturn, 1) := by decide +kernel
theorem dX3_take_23 : decode cX3_take 23 = .ok (.aload_n 0, 1) := by decide +kernel
theorem dX3_take_24 : decode cX3_take 24 = .ok (.getfield 20, 3) := by decide +kernel
theorem dX3_take_27 : decode cX3_take 27 = .ok (.iload_n 1, 1) := by decide +kernel
theorem dX3_take_28 : decode cX3_take 28 = .ok (.aaload, 1) := by decide +kernel
theorem dX3_take_29 : decode cX3_take 29 = .ok (.getfield 270, 3) := by decide +kernel
theorem dX3_take_32 : decode cX3_take 32 = .ok (.astore_n 3, 1) := by decide +kernel
theorem dX3_take_33 : decode cX3_take 33 = .ok (.aload_n 3, 1) := by decide +kernel
theorem dX3_take_34 : decode cX3_take 34 = .ok (.ifnonnull 6, 3) := by decide +kernel
theorem dX3_take_37 : decode cX3_take 37 = .ok (.bipush (-10), 2) := by decide +kernel
theorem dX3_take_39 : decode cX3_take 39 = .ok (.ireturn, 1) := by decide +kernel
theorem dX3_take_40 : decode cX3_take 40 = .ok (.aload_n 3, 1) := by decide +kernel
theorem dX3_take_41 : decode cX3_take 41 = .ok (.iload_n 2, 1) := by decide +kernel
theorem dX3_take_42 : decode cX3_take 42 = .ok (.invokestatic 277, 3) := by decide +kernel
theorem dX3_take_45 : decode cX3_take 45 = .ok (.ifCond .eq 10, 3) := by decide +kernel
theorem dX3_take_48 : decode cX3_take 48 = .ok (.aload_n 3, 1) := by decide +kernel
theorem dX3_take_49 : decode cX3_take 49 = .ok (.getfield 60, 3) := by decide +kernel
theorem dX3_take_52 : decode cX3_take 52 = .ok (.goto 5, 3) := by decide +kernel
theorem dX3_take_55 : decode cX3_take 55 = .ok (.bipush (-12), 2) := by decide +kernel
theorem dX3_take_57 : decode cX3_take 57 = .ok (.ireturn, 1) := by decide +kernel
theorem dX3_isOfKind_0 : decode cX3_isOfKind 0 = .ok (.aload_n 0, 1) := by decide +kernel
theorem dX3_isOfKind_1 : decode cX3_isOfKind 1 = .ok (.getfield 103, 3) := by decide +kernel
theorem dX3_isOfKind_4 : decode cX3_isOfKind 4 = .ok (.istore_n 2, 1) := by decide +kernel
theorem dX3_isOfKind_5 : decode cX3_isOfKind 5 = .ok (.iconst 0, 1) := by decide +kernel
theorem dX3_isOfKind_6 : decode cX3_isOfKind 6 = .ok (.istore_n 3, 1) := by decide +kernel
theorem dX3_isOfKind_7 : decode cX3_isOfKind 7 = .ok (.iload_n 3, 1) := by decide +kernel
theorem dX3_isOfKind_8 : decode cX3_isOfKind 8 = .ok (.bipush 6, 2) := by decide +kernel
theorem dX3_isOfKind_10 : decode cX3_isOfKind 10 = .ok (.if_icmp .ge 32, 3) := by decide +kernel
theorem dX3_isOfKind_13 : decode cX3_isOfKind 13 = .ok (.iload_n 2, 1) := by decide +kernel
theorem dX3_isOfKind_14 : decode cX3_isOfKind 14 = .ok (.ifCond .lt 28, 3) := by decide +kernel
theorem dX3_isOfKind_17 : decode cX3_isOfKind 17 = .ok (.iload_n 2, 1) := by decide +kernel
theorem dX3_isOfKind_18 : decode cX3_isOfKind 18 = .ok (.bipush 6, 2) := by decide +kernel
theorem dX3_isOfKind_20 : decode cX3_isOfKind 20 = .ok (.if_icmp .ge 22, 3) := by decide +kernel
theorem dX3_isOfKind_23 : decode cX3_isOfKind 23 = .ok (.iload_n 2, 1) := by decide +kernel
theorem dX3_isOfKind_24 : decode cX3_isOfKind 24 = .ok (.iload_n 1, 1) := by decide +kernel
theorem dX3_isOfKind_25 : decode cX3_isOfKind 25 = .ok (.if_icmp .ne 5, 3) := by decide +kernel
theorem dX3_isOfKind_28 : decode cX3_isOfKind 28 = .ok (.iconst 1, 1) := by decide +kernel
theorem dX3_isOfKind_29 : decode cX3_isOfKind 29 = .ok (.ireturn, 1) := by decide +kernel
theorem dX3_isOfKind_30 : decode cX3_isOfKind 30 = .ok (.getstatic 281, 3) := by decide +kernel
theorem dX3_isOfKind_33 : decode cX3_isOfKind 33 = .ok (.iload_n 2, 1) := by decide +kernel
theorem dX3_isOfKind_34 : decode cX3_isOfKind 34 = .ok (.iaload, 1) := by decide +kernel
theorem dX3_isOfKind_35 : decode cX3_isOfKind 35 = .ok (.istore_n 2, 1) := by decide +kernel
theorem dX3_isOfKind_36 : decode cX3_isOfKind 36 = .ok (.iinc 3 1, 3) := by decide +kernel
theorem dX3_isOfKind_39 : decode cX3_isOfKind 39 = .ok (.goto (-32), 3) := by decide +kernel
theorem dX3_isOfKind_42 : decode cX3_isOfKind 42 = .ok (.iconst 0, 1) := by decide +kernel
theorem dX3_isOfKind_43 : decode cX3_isOfKind 43 = .ok (.ireturn, 1) := by decide +kernel
theorem dX3_order_0 : decode cX3_order 0 = .ok (.iload_n 1, 1) := by decide +kernel
theorem dX3_order_1 : decode cX3_order 1 = .ok (.iconst 1, 1) := by decide +kernel
theorem dX3_order_2 : decode cX3_order 2 = .ok (.if_icmp .lt 21, 3) := by decide +kernel
theorem dX3_order_5 : decode cX3_order 5 = .ok (.iload_n 1, 1) := by decide +kernel
theorem dX3_order_6 : decode cX3_order 6 = .ok (.sipush 2000, 3) := by decide +kernel
theorem dX3_order_9 : decode cX3_order 9 = .ok (.if_icmp .gt 14, 3) := by decide +kernel
theorem dX3_order_12 : decode cX3_order 12 = .ok (.iload_n 2, 1) := by decide +kernel
theorem dX3_order_13 : decode cX3_order 13 = .ok (.ifCond .lt 10, 3) := by decide +kernel
theorem dX3_order_16 : decode cX3_order 16 = .ok (.iload_n 2, 1) := by decide +kernel
theorem dX3_order_17 : decode cX3_order 17 = .ok (.ldc_w 284, 3) := by decide +kernel
theorem dX3_order_20 : decode cX3_order 20 = .ok (.if_icmp .le 6, 3) := by decide +kernel
theorem dX3_order_23 : decode cX3_order 23 = .ok (.bipush (-2), 2) := by decide +kernel
theorem dX3_order_25 : decode cX3_order 25 = .ok (.ireturn, 1) := by decide +kernel
theorem dX3_order_26 : decode cX3_order 26 = .ok (.aload_n 0, 1) := by decide +kernel
theorem dX3_order_27 : decode cX3_order 27 = .ok (.getfield 143, 3) := by decide +kernel
theorem dX3_order_30 : decode cX3_order 30 = .ok (.bipush 6, 2) := by decide +kernel
theorem dX3_order_32 : decode cX3_order 32 = .ok (.if_icmp .lt 6, 3) := by decide +kernel
theorem dX3_order_35 : decode cX3_order 35 = .ok (.bipush (-2), 2) := by decide +kernel
theorem dX3_order_37 : decode cX3_order 37 = .ok (.ireturn, 1) := by decide +kernel
theorem dX3_order_38 : decode cX3_order 38 = .ok (.aload_n 0, 1) := by decide +kernel
theorem dX3_order_39 : decode cX3_order 39 = .ok (.getfield 26, 3) := by decide +kernel
theorem dX3_order_42 : decode cX3_order 42 = .ok (.aload_n 0, 1) := by decide +kernel
theorem dX3_order_43 : decode cX3_order 43 = .ok (.getfield 143, 3) := by decide +kernel
theorem dX3_order_46 : decode cX3_order 46 = .ok (.new 24, 3) := by decide +kernel
theorem dX3_order_49 : decode cX3_order 49 = .ok (.dup, 1) := by decide +kernel
theorem dX3_order_50 : decode cX3_order 50 = .ok (.iload_n 1, 1) := by decide +kernel
theorem dX3_order_51 : decode cX3_order 51 = .ok (.iload_n 2, 1) := by decide +kernel
theorem dX3_order_52 : decode cX3_order 52 = .ok (.i2f, 1) := by decide +kernel
theorem dX3_order_53 : decode cX3_order 53 = .ok (.ldc 44, 2) := by decide +kernel
theorem dX3_order_55 : decode cX3_order 55 = .ok (.fmul, 1) := by decide +kernel
theorem dX3_order_56 : decode cX3_order 56 = .ok (.invokespecial 285, 3) := by decide +kernel
theorem dX3_order_59 : decode cX3_order 59 = .ok (.aastore, 1) := by decide +kernel
theorem dX3_order_60 : decode cX3_order 60 = .ok (.aload_n 0, 1) := by decide +kernel
theorem dX3_order_61 : decode cX3_order 61 = .ok (.dup, 1) := by decide +kernel
theorem dX3_order_62 : decode cX3_order 62 = .ok (.getfield 143, 3) := by decide +kernel
theorem dX3_order_65 : decode cX3_order 65 = .ok (.iconst 1, 1) := by decide +kernel
theorem dX3_order_66 : decode cX3_order 66 = .ok (.iadd, 1) := by decide +kernel
theorem dX3_order_67 : decode cX3_order 67 = .ok (.putfield 143, 3) := by decide +kernel
theorem dX3_order_70 : decode cX3_order 70 = .ok (.aload_n 0, 1) := by decide +kernel
theorem dX3_order_71 : decode cX3_order 71 = .ok (.getfield 143, 3) := by decide +kernel
theorem dX3_order_74 : decode cX3_order 74 = .ok (.iconst 1, 1) := by decide +kernel
theorem dX3_order_75 : decode cX3_order 75 = .ok (.isub, 1) := by decide +kernel
theorem dX3_order_76 : decode cX3_order 76 = .ok (.ireturn, 1) := by decide +kernel
theorem dX3_orderAt_0 : decode cX3_orderAt 0 = .ok (.iload_n 1, 1) := by decide +kernel
theorem dX3_orderAt_1 : decode cX3_orderAt 1 = .ok (.ifCond .lt 17, 3) := by decide +kernel
theorem dX3_orderAt_4 : decode cX3_orderAt 4 = .ok (.iload_n 1, 1) := by decide +kernel
theorem dX3_orderAt_5 : decode cX3_orderAt 5 = .ok (.aload_n 0, 1) := by decide +kernel
theorem dX3_orderAt_6 : decode cX3_orderAt 6 = .ok (.getfield 143, 3) := by decide +kernel
theorem dX3_orderAt_9 : decode cX3_orderAt 9 = .ok (.if_icmp .ge 9, 3) := by decide +kernel
theorem dX3_orderAt_12 : decode cX3_orderAt 12 = .ok (.iload_n 1, 1) := by decide +kernel
theorem dX3_orderAt_13 : decode cX3_orderAt 13 = .ok (.bipush 6, 2) := by decide +kernel
theorem dX3_orderAt_15 : decode cX3_orderAt 15 = .ok (.if_icmp .lt 5, 3) := by decide +kernel
theorem dX3_orderAt_18 : decode cX3_orderAt 18 = .ok (.aconst_null, 1) := by decide +kernel
theorem dX3_orderAt_19 : decode cX3_orderAt 19 = .ok (.areturn, 1) := by decide +kernel
theorem dX3_orderAt_20 : decode cX3_orderAt 20 = .ok (.aload_n 0, 1) := by decide +kernel
theorem dX3_orderAt_21 : decode cX3_orderAt 21 = .ok (.getfield 26, 3) := by decide +kernel
theorem dX3_orderAt_24 : decode cX3_orderAt 24 = .ok (.iload_n 1, 1) := by decide +kernel
theorem dX3_orderAt_25 : decode cX3_orderAt 25 = .ok (.aaload, 1) := by decide +kernel
theorem dX3_orderAt_26 : decode cX3_orderAt 26 = .ok (.areturn, 1) := by decide +kernel
theorem dX3_cut_0 : decode cX3_cut 0 = .ok (.aload_n 0, 1) := by decide +kernel
theorem dX3_cut_1 : decode cX3_cut 1 = .ok (.iload_n 1, 1) := by decide +kernel
theorem dX3_cut_2 : decode cX3_cut 2 = .ok (.invokevirtual 288, 3) := by decide +kernel
theorem dX3_cut_5 : decode cX3_cut 5 = .ok (.astore_n 2, 1) := by decide +kernel
theorem dX3_cut_6 : decode cX3_cut 6 = .ok (.aload_n 2, 1) := by decide +kernel
theorem dX3_cut_7 : decode cX3_cut 7 = .ok (.ifnull 10, 3) := by decide +kernel
theorem dX3_cut_10 : decode cX3_cut 10 = .ok (.aload_n 2, 1) := by decide +kernel
theorem dX3_cut_11 : decode cX3_cut 11 = .ok (.getfield 292, 3) := by decide +kernel
theorem dX3_cut_14 : decode cX3_cut 14 = .ok (.ifCond .lt 6, 3) := by decide +kernel
theorem dX3_cut_17 : decode cX3_cut 17 = .ok (.bipush (-2), 2) := by decide +kernel
theorem dX3_cut_19 : decode cX3_cut 19 = .ok (.ireturn, 1) := by decide +kernel
theorem dX3_cut_20 : decode cX3_cut 20 = .ok (.aload_n 0, 1) := by decide +kernel
theorem dX3_cut_21 : decode cX3_cut 21 = .ok (.invokevirtual 295, 3) := by decide +kernel
theorem dX3_cut_24 : decode cX3_cut 24 = .ok (.aload_n 0, 1) := by decide +kernel
theorem dX3_cut_25 : decode cX3_cut 25 = .ok (.invokevirtual 298, 3) := by decide +kernel
theorem dX3_cut_28 : decode cX3_cut 28 = .ok (.aload_n 0, 1) := by decide +kernel
theorem dX3_cut_29 : decode cX3_cut 29 = .ok (.aload_n 2, 1) := by decide +kernel
theorem dX3_cut_30 : decode cX3_cut 30 = .ok (.bipush 63, 2) := by decide +kernel
theorem dX3_cut_32 : decode cX3_cut 32 = .ok (.invokevirtual 301, 3) := by decide +kernel
theorem dX3_cut_35 : decode cX3_cut 35 = .ok (.istore_n 3, 1) := by decide +kernel
theorem dX3_cut_36 : decode cX3_cut 36 = .ok (.iload_n 3, 1) := by decide +kernel
theorem dX3_cut_37 : decode cX3_cut 37 = .ok (.ifCond .ge 5, 3) := by decide +kernel
theorem dX3_cut_40 : decode cX3_cut 40 = .ok (.iconst (-1), 1) := by decide +kernel
theorem dX3_cut_41 : decode cX3_cut 41 = .ok (.ireturn, 1) := by decide +kernel
theorem dX3_cut_42 : decode cX3_cut 42 = .ok (.aload_n 2, 1) := by decide +kernel
theorem dX3_cut_43 : decode cX3_cut 43 = .ok (.iload_n 3, 1) := by decide +kernel
theorem dX3_cut_44 : decode cX3_cut 44 = .ok (.sipush 10000, 3) := by decide +kernel
theorem dX3_cut_47 : decode cX3_cut 47 = .ok (.idiv, 1) := by decide +kernel
theorem dX3_cut_48 : decode cX3_cut 48 = .ok (.putfield 292, 3) := by decide +kernel
theorem dX3_cut_51 : decode cX3_cut 51 = .ok (.aload_n 2, 1) := by decide +kernel
theorem dX3_cut_52 : decode cX3_cut 52 = .ok (.iload_n 3, 1) := by decide +kernel
theorem dX3_cut_53 : decode cX3_cut 53 = .ok (.sipush 10000, 3) := by decide +kernel
theorem dX3_cut_56 : decode cX3_cut 56 = .ok (.irem, 1) := by decide +kernel
theorem dX3_cut_57 : decode cX3_cut 57 = .ok (.putfield 305, 3) := by decide +kernel
theorem dX3_cut_60 : decode cX3_cut 60 = .ok (.iload_n 3, 1) := by decide +kernel
theorem dX3_cut_61 : decode cX3_cut 61 = .ok (.ireturn, 1) := by decide +kernel
theorem dX3_join_0 : decode cX3_join 0 = .ok (.aload_n 0, 1) := by decide +kernel
theorem dX3_join_1 : decode cX3_join 1 = .ok (.iload_n 1, 1) := by decide +kernel
theorem dX3_join_2 : decode cX3_join 2 = .ok (.invokevirtual 288, 3) := by decide +kernel
theorem dX3_join_5 : decode cX3_join 5 = .ok (.astore_n 2, 1) := by decide +kernel
theorem dX3_join_6 : decode cX3_join 6 = .ok (.aload_n 2, 1) := by decide +kernel
theorem dX3_join_7 : decode cX3_join 7 = .ok (.ifnull 10, 3) := by decide +kernel
theorem dX3_join_10 : decode cX3_join 10 = .ok (.aload_n 2, 1) := by decide +kernel
theorem dX3_join_11 : decode cX3_join 11 = .ok (.getfield 292, 3) := by decide +kernel
theorem dX3_join_14 : decode cX3_join 14 = .ok (.ifCond .ge 6, 3) := by decide +kernel
theorem dX3_join_17 : decode cX3_join 17 = .ok (.bipush (-2), 2) := by decide +kernel
theorem dX3_join_19 : decode cX3_join 19 = .ok (.ireturn, 1) := by decide +kernel
theorem dX3_join_20 : decode cX3_join 20 = .ok (.sipush 10000, 3) := by decide +kernel
theorem dX3_join_23 : decode cX3_join 23 = .ok (.aload_n 2, 1) := by decide +kernel
theorem dX3_join_24 : decode cX3_join 24 = .ok (.getfield 292, 3) := by decide +kernel
theorem dX3_join_27 : decode cX3_join 27 = .ok (.imul, 1) := by decide +kernel
theorem dX3_join_28 : decode cX3_join 28 = .ok (.aload_n 2, 1) := by decide +kernel
theorem dX3_join_29 : decode cX3_join 29 = .ok (.getfield 305, 3) := by decide +kernel
theorem dX3_join_32 : decode cX3_join 32 = .ok (.iadd, 1) := by decide +kernel
theorem dX3_join_33 : decode cX3_join 33 = .ok (.istore_n 3, 1) := by decide +kernel
theorem dX3_join_34 : decode cX3_join 34 = .ok (.aload_n 2, 1) := by decide +kernel
theorem dX3_join_35 : decode cX3_join 35 = .ok (.iconst (-1), 1) := by decide +kernel
theorem dX3_join_36 : decode cX3_join 36 = .ok (.putfield 292, 3) := by decide +kernel
theorem dX3_join_39 : decode cX3_join 39 = .ok (.iload_n 3, 1) := by decide +kernel
theorem dX3_join_40 : decode cX3_join 40 = .ok (.ireturn, 1) := by decide +kernel
theorem dX3_begun_0 : decode cX3_begun 0 = .ok (.iconst 0, 1) := by decide +kernel
theorem dX3_begun_1 : decode cX3_begun 1 = .ok (.istore_n 1, 1) := by decide +kernel
theorem dX3_begun_2 : decode cX3_begun 2 = .ok (.iconst 0, 1) := by decide +kernel
theorem dX3_begun_3 : decode cX3_begun 3 = .ok (.istore_n 2, 1) := by decide +kernel
theorem dX3_begun_4 : decode cX3_begun 4 = .ok (.iload_n 2, 1) := by decide +kernel
theorem dX3_begun_5 : decode cX3_begun 5 = .ok (.bipush 6, 2) := by decide +kernel
theorem dX3_begun_7 : decode cX3_begun 7 = .ok (.if_icmp .ge 25, 3) := by decide +kernel
theorem dX3_begun_10 : decode cX3_begun 10 = .ok (.aload_n 0, 1) := by decide +kernel
theorem dX3_begun_11 : decode cX3_begun 11 = .ok (.iload_n 2, 1) := by decide +kernel
theorem dX3_begun_12 : decode cX3_begun 12 = .ok (.invokevirtual 274, 3) := by decide +kernel
theorem dX3_begun_15 : decode cX3_begun 15 = .ok (.ifCond .eq 11, 3) := by decide +kernel
theorem dX3_begun_18 : decode cX3_begun 18 = .ok (.iload_n 1, 1) := by decide +kernel
theorem dX3_begun_19 : decode cX3_begun 19 = .ok (.aload_n 0, 1) := by decide +kernel
theorem dX3_begun_20 : decode cX3_begun 20 = .ok (.iload_n 2, 1) := by decide +kernel
theorem dX3_begun_21 : decode cX3_begun 21 = .ok (.invokevirtual 308, 3) := by decide +kernel
theorem dX3_begun_24 : decode cX3_begun 24 = .ok (.iadd, 1) := by decide +kernel
theorem dX3_begun_25 : decode cX3_begun 25 = .ok (.istore_n 1, 1) := by decide +kernel
theorem dX3_begun_26 : decode cX3_begun 26 = .ok (.iinc 2 1, 3) := by decide +kernel
theorem dX3_begun_29 : decode cX3_begun 29 = .ok (.goto (-25), 3) := by decide +kernel
theorem dX3_begun_32 : decode cX3_begun 32 = .ok (.iload_n 1, 1) := by decide +kernel
theorem dX3_begun_33 : decode cX3_begun 33 = .ok (.ireturn, 1) := by decide +kernel
theorem dX3_fewest_0 : decode cX3_fewest 0 = .ok (.aload_n 0, 1) := by decide +kernel
theorem dX3_fewest_1 : decode cX3_fewest 1 = .ok (.invokevirtual 146, 3) := by decide +kernel
theorem dX3_fewest_4 : decode cX3_fewest 4 = .ok (.aload_n 0, 1) := by decide +kernel
theorem dX3_fewest_5 : decode cX3_fewest 5 = .ok (.getfield 143, 3) := by decide +kernel
theorem dX3_fewest_8 : decode cX3_fewest 8 = .ok (.if_icmp .ne 5, 3) := by decide +kernel
theorem dX3_fewest_11 : decode cX3_fewest 11 = .ok (.iconst 0, 1) := by decide +kernel
theorem dX3_fewest_12 : decode cX3_fewest 12 = .ok (.ireturn, 1) := by decide +kernel
theorem dX3_fewest_13 : decode cX3_fewest 13 = .ok (.aload_n 0, 1) := by decide +kernel
theorem dX3_fewest_14 : decode cX3_fewest 14 = .ok (.invokevirtual 295, 3) := by decide +kernel
theorem dX3_fewest_17 : decode cX3_fewest 17 = .ok (.aload_n 0, 1) := by decide +kernel
theorem dX3_fewest_18 : decode cX3_fewest 18 = .ok (.invokevirtual 311, 3) := by decide +kernel
theorem dX3_fewest_21 : decode cX3_fewest 21 = .ok (.istore_n 1, 1) := by decide +kernel
theorem dX3_fewest_22 : decode cX3_fewest 22 = .ok (.iconst (-1), 1) := by decide +kernel
theorem dX3_fewest_23 : decode cX3_fewest 23 = .ok (.istore_n 2, 1) := by decide +kernel
theorem dX3_fewest_24 : decode cX3_fewest 24 = .ok (.iconst 1, 1) := by decide +kernel
theorem dX3_fewest_25 : decode cX3_fewest 25 = .ok (.istore_n 3, 1) := by decide +kernel
theorem dX3_fewest_26 : decode cX3_fewest 26 = .ok (.iload_n 3, 1) := by decide +kernel
theorem dX3_fewest_27 : decode cX3_fewest 27 = .ok (.bipush 64, 2) := by decide +kernel
theorem dX3_fewest_29 : decode cX3_fewest 29 = .ok (.if_icmp .ge 45, 3) := by decide +kernel
theorem dX3_fewest_32 : decode cX3_fewest 32 = .ok (.iload_n 3, 1) := by decide +kernel
theorem dX3_fewest_33 : decode cX3_fewest 33 = .ok (.iload_n 1, 1) := by decide +kernel
theorem dX3_fewest_34 : decode cX3_fewest 34 = .ok (.iconst (-1), 1) := by decide +kernel
theorem dX3_fewest_35 : decode cX3_fewest 35 = .ok (.ixor, 1) := by decide +kernel
theorem dX3_fewest_36 : decode cX3_fewest 36 = .ok (.iand, 1) := by decide +kernel
theorem dX3_fewest_37 : decode cX3_fewest 37 = .ok (.ifCond .ne 31, 3) := by decide +kernel
theorem dX3_fewest_40 : decode cX3_fewest 40 = .ok (.aload_n 0, 1) := by decide +kernel
theorem dX3_fewest_41 : decode cX3_fewest 41 = .ok (.iload_n 3, 1) := by decide +kernel
theorem dX3_fewest_42 : decode cX3_fewest 42 = .ok (.invokevirtual 314, 3) := by decide +kernel
theorem dX3_fewest_45 : decode cX3_fewest 45 = .ok (.istore 4, 2) := by decide +kernel
theorem dX3_fewest_47 : decode cX3_fewest 47 = .ok (.iload_n 2, 1) := by decide +kernel
theorem dX3_fewest_48 : decode cX3_fewest 48 = .ok (.ifCond .lt 9, 3) := by decide +kernel
theorem dX3_fewest_51 : decode cX3_fewest 51 = .ok (.iload 4, 2) := by decide +kernel
theorem dX3_fewest_53 : decode cX3_fewest 53 = .ok (.iload_n 2, 1) := by decide +kernel
theorem dX3_fewest_54 : decode cX3_fewest 54 = .ok (.if_icmp .ge 14, 3) := by decide +kernel
theorem dX3_fewest_57 : decode cX3_fewest 57 = .ok (.aload_n 0, 1) := by decide +kernel
theorem dX3_fewest_58 : decode cX3_fewest 58 = .ok (.iload_n 3, 1) := by decide +kernel
theorem dX3_fewest_59 : decode cX3_fewest 59 = .ok (.invokevirtual 317, 3) := by decide +kernel
theorem dX3_fewest_62 : decode cX3_fewest 62 = .ok (.ifCond .eq 6, 3) := by decide +kernel
theorem dX3_fewest_65 : decode cX3_fewest 65 = .ok (.iload 4, 2) := by decide +kernel
theorem dX3_fewest_67 : decode cX3_fewest 67 = .ok (.istore_n 2, 1) := by decide +kernel
theorem dX3_fewest_68 : decode cX3_fewest 68 = .ok (.iinc 3 1, 3) := by decide +kernel
theorem dX3_fewest_71 : decode cX3_fewest 71 = .ok (.goto (-45), 3) := by decide +kernel
theorem dX3_fewest_74 : decode cX3_fewest 74 = .ok (.iload_n 2, 1) := by decide +kernel
theorem dX3_fewest_75 : decode cX3_fewest 75 = .ok (.ireturn, 1) := by decide +kernel
theorem dX3_unbegunReels_0 : decode cX3_unbegunReels 0 = .ok (.iconst 0, 1) := by decide +kernel
theorem dX3_unbegunReels_1 : decode cX3_unbegunReels 1 = .ok (.istore_n 1, 1) := by decide +kernel
theorem dX3_unbegunReels_2 : decode cX3_unbegunReels 2 = .ok (.iconst 0, 1) := by decide +kernel
theorem dX3_unbegunReels_3 : decode cX3_unbegunReels 3 = .ok (.istore_n 2, 1) := by decide +kernel
theorem dX3_unbegunReels_4 : decode cX3_unbegunReels 4 = .ok (.iload_n 2, 1) := by decide +kernel
theorem dX3_unbegunReels_5 : decode cX3_unbegunReels 5 = .ok (.bipush 6, 2) := by decide +kernel
theorem dX3_unbegunReels_7 : decode cX3_unbegunReels 7 = .ok (.if_icmp .ge 35, 3) := by decide +kernel
theorem dX3_unbegunReels_10 : decode cX3_unbegunReels 10 = .ok (.aload_n 0, 1) := by decide +kernel
theorem dX3_unbegunReels_11 : decode cX3_unbegunReels 11 = .ok (.getfield 20, 3) := by decide +kernel
theorem dX3_unbegunReels_14 : decode cX3_unbegunReels 14 = .ok (.iload_n 2, 1) := by decide +kernel
theorem dX3_unbegunReels_15 : decode cX3_unbegunReels 15 = .ok (.aaload, 1) := by decide +kernel
theorem dX3_unbegunReels_16 : decode cX3_unbegunReels 16 = .ok (.getfield 270, 3) := by decide +kernel
theorem dX3_unbegunReels_19 : decode cX3_unbegunReels 19 = .ok (.ifnull 17, 3) := by decide +kernel
theorem dX3_unbegunReels_22 : decode cX3_unbegunReels 22 = .ok (.aload_n 0, 1) := by decide +kernel
theorem dX3_unbegunReels_23 : decode cX3_unbegunReels 23 = .ok (.iload_n 2, 1) := by decide +kernel
theorem dX3_unbegunReels_24 : decode cX3_unbegunReels 24 = .ok (.invokevirtual 274, 3) := by decide +kernel
theorem dX3_unbegunReels_27 : decode cX3_unbegunReels 27 = .ok (.ifCond .ne 9, 3) := by decide +kernel
theorem dX3_unbegunReels_30 : decode cX3_unbegunReels 30 = .ok (.iload_n 1, 1) := by decide +kernel
theorem dX3_unbegunReels_31 : decode cX3_unbegunReels 31 = .ok (.iconst 1, 1) := by decide +kernel
theorem dX3_unbegunReels_32 : decode cX3_unbegunReels 32 = .ok (.iload_n 2, 1) := by decide +kernel
theorem dX3_unbegunReels_33 : decode cX3_unbegunReels 33 = .ok (.ishl, 1) := by decide +kernel
theorem dX3_unbegunReels_34 : decode cX3_unbegunReels 34 = .ok (.ior, 1) := by decide +kernel
theorem dX3_unbegunReels_35 : decode cX3_unbegunReels 35 = .ok (.istore_n 1, 1) := by decide +kernel
theorem dX3_unbegunReels_36 : decode cX3_unbegunReels 36 = .ok (.iinc 2 1, 3) := by decide +kernel
theorem dX3_unbegunReels_39 : decode cX3_unbegunReels 39 = .ok (.goto (-35), 3) := by decide +kernel
theorem dX3_unbegunReels_42 : decode cX3_unbegunReels 42 = .ok (.iload_n 1, 1) := by decide +kernel
theorem dX3_unbegunReels_43 : decode cX3_unbegunReels 43 = .ok (.ireturn, 1) := by decide +kernel
theorem dX3_lengthTogether_0 : decode cX3_lengthTogether 0 = .ok (.iconst 0, 1) := by decide +kernel
theorem dX3_lengthTogether_1 : decode cX3_lengthTogether 1 = .ok (.istore_n 2, 1) := by decide +kernel
theorem dX3_lengthTogether_2 : decode cX3_lengthTogether 2 = .ok (.iconst 0, 1) := by decide +kernel
theorem dX3_lengthTogether_3 : decode cX3_lengthTogether 3 = .ok (.istore_n 3, 1) := by decide +kernel
theorem dX3_lengthTogether_4 : decode cX3_lengthTogether 4 = .ok (.iload_n 3, 1) := by decide +kernel
theorem dX3_lengthTogether_5 : decode cX3_lengthTogether 5 = .ok (.bipush 6, 2) := by decide +kernel
theorem dX3_lengthTogether_7 : decode cX3_lengthTogether 7 = .ok (.if_icmp .ge 26, 3) := by decide +kernel
theorem dX3_lengthTogether_10 : decode cX3_lengthTogether 10 = .ok (.iload_n 1, 1) := by decide +kernel
theorem dX3_lengthTogether_11 : decode cX3_lengthTogether 11 = .ok (.iload_n 3, 1) := by decide +kernel
theorem dX3_lengthTogether_12 : decode cX3_lengthTogether 12 = .ok (.ishr, 1) := by decide +kernel
theorem dX3_lengthTogether_13 : decode cX3_lengthTogether 13 = .ok (.iconst 1, 1) := by decide +kernel
theorem dX3_lengthTogether_14 : decode cX3_lengthTogether 14 = .ok (.iand, 1) := by decide +kernel
theorem dX3_lengthTogether_15 : decode cX3_lengthTogether 15 = .ok (.iconst 1, 1) := by decide +kernel
theorem dX3_lengthTogether_16 : decode cX3_lengthTogether 16 = .ok (.if_icmp .ne 11, 3) := by decide +kernel
theorem dX3_lengthTogether_19 : decode cX3_lengthTogether 19 = .ok (.iload_n 2, 1) := by decide +kernel
theorem dX3_lengthTogether_20 : decode cX3_lengthTogether 20 = .ok (.aload_n 0, 1) := by decide +kernel
theorem dX3_lengthTogether_21 : decode cX3_lengthTogether 21 = .ok (.iload_n 3, 1) := by decide +kernel
theorem dX3_lengthTogether_22 : decode cX3_lengthTogether 22 = .ok (.invokevirtual 308, 3) := by decide +kernel
theorem dX3_lengthTogether_25 : decode cX3_lengthTogether 25 = .ok (.iadd, 1) := by decide +kernel
theorem dX3_lengthTogether_26 : decode cX3_lengthTogether 26 = .ok (.istore_n 2, 1) := by decide +kernel
theorem dX3_lengthTogether_27 : decode cX3_lengthTogether 27 = .ok (.iinc 3 1, 3) := by decide +kernel
theorem dX3_lengthTogether_30 : decode cX3_lengthTogether 30 = .ok (.goto (-26), 3) := by decide +kernel
theorem dX3_lengthTogether_33 : decode cX3_lengthTogether 33 = .ok (.iload_n 2, 1) := by decide +kernel
theorem dX3_lengthTogether_34 : decode cX3_lengthTogether 34 = .ok (.ireturn, 1) := by decide +kernel
theorem dX3_lengthOn_0 : decode cX3_lengthOn 0 = .ok (.iload_n 1, 1) := by decide +kernel
theorem dX3_lengthOn_1 : decode cX3_lengthOn 1 = .ok (.invokestatic 266, 3) := by decide +kernel
theorem dX3_lengthOn_4 : decode cX3_lengthOn 4 = .ok (.ifCond .eq 30, 3) := by decide +kernel
theorem dX3_lengthOn_7 : decode cX3_lengthOn 7 = .ok (.aload_n 0, 1) := by decide +kernel
theorem dX3_lengthOn_8 : decode cX3_lengthOn 8 = .ok (.getfield 20, 3) := by decide +kernel
theorem dX3_lengthOn_11 : decode cX3_lengthOn 11 = .ok (.iload_n 1, 1) := by decide +kernel
theorem dX3_lengthOn_12 : decode cX3_lengthOn 12 = .ok (.aaload, 1) := by decide +kernel
theorem dX3_lengthOn_13 : decode cX3_lengthOn 13 = .ok (.getfield 270, 3) := by decide +kernel
theorem dX3_lengthOn_16 : decode cX3_lengthOn 16 = .ok (.ifnull 18, 3) := by decide +kernel
theorem dX3_lengthOn_19 : decode cX3_lengthOn 19 = .ok (.aload_n 0, 1) := by decide +kernel
theorem dX3_lengthOn_20 : decode cX3_lengthOn 20 = .ok (.getfield 20, 3) := by decide +kernel
theorem dX3_lengthOn_23 : decode cX3_lengthOn 23 = .ok (.iload_n 1, 1) := by decide +kernel
theorem dX3_lengthOn_24 : decode cX3_lengthOn 24 = .ok (.aaload, 1) := by decide +kernel
theorem dX3_lengthOn_25 : decode cX3_lengthOn 25 = .ok (.getfield 270, 3) := by decide +kernel
theorem dX3_lengthOn_28 : decode cX3_lengthOn 28 = .ok (.getfield 113, 3) := by decide +kernel
theorem dX3_lengthOn_31 : decode cX3_lengthOn 31 = .ok (.goto 4, 3) := by decide +kernel
theorem dX3_lengthOn_34 : decode cX3_lengthOn 34 = .ok (.iconst 0, 1) := by decide +kernel
theorem dX3_lengthOn_35 : decode cX3_lengthOn 35 = .ok (.ireturn, 1) := by decide +kernel
theorem dX3_isCutFrom_0 : decode cX3_isCutFrom 0 = .ok (.iconst 0, 1) := by decide +kernel
theorem dX3_isCutFrom_1 : decode cX3_isCutFrom 1 = .ok (.istore_n 2, 1) := by decide +kernel
theorem dX3_isCutFrom_2 : decode cX3_isCutFrom 2 = .ok (.iload_n 2, 1) := by decide +kernel
theorem dX3_isCutFrom_3 : decode cX3_isCutFrom 3 = .ok (.aload_n 0, 1) := by decide +kernel
theorem dX3_isCutFrom_4 : decode cX3_isCutFrom 4 = .ok (.getfield 143, 3) := by decide +kernel
theorem dX3_isCutFrom_7 : decode cX3_isCutFrom 7 = .ok (.if_icmp .ge 39, 3) := by decide +kernel
theorem dX3_isCutFrom_10 : decode cX3_isCutFrom 10 = .ok (.iload_n 2, 1) := by decide +kernel
theorem dX3_isCutFrom_11 : decode cX3_isCutFrom 11 = .ok (.bipush 6, 2) := by decide +kernel
theorem dX3_isCutFrom_13 : decode cX3_isCutFrom 13 = .ok (.if_icmp .ge 33, 3) := by decide +kernel
theorem dX3_isCutFrom_16 : decode cX3_isCutFrom 16 = .ok (.aload_n 0, 1) := by decide +kernel
theorem dX3_isCutFrom_17 : decode cX3_isCutFrom 17 = .ok (.getfield 26, 3) := by decide +kernel
theorem dX3_isCutFrom_20 : decode cX3_isCutFrom 20 = .ok (.iload_n 2, 1) := by decide +kernel
theorem dX3_isCutFrom_21 : decode cX3_isCutFrom 21 = .ok (.aaload, 1) := by decide +kernel
theorem dX3_isCutFrom_22 : decode cX3_isCutFrom 22 = .ok (.ifnull 18, 3) := by decide +kernel
theorem dX3_isCutFrom_25 : decode cX3_isCutFrom 25 = .ok (.aload_n 0, 1) := by decide +kernel
theorem dX3_isCutFrom_26 : decode cX3_isCutFrom 26 = .ok (.getfield 26, 3) := by decide +kernel
theorem dX3_isCutFrom_29 : decode cX3_isCutFrom 29 = .ok (.iload_n 2, 1) := by decide +kernel
theorem dX3_isCutFrom_30 : decode cX3_isCutFrom 30 = .ok (.aaload, 1) := by decide +kernel
theorem dX3_isCutFrom_31 : decode cX3_isCutFrom 31 = .ok (.getfield 292, 3) := by decide +kernel
theorem dX3_isCutFrom_34 : decode cX3_isCutFrom 34 = .ok (.iload_n 1, 1) := by decide +kernel
theorem dX3_isCutFrom_35 : decode cX3_isCutFrom 35 = .ok (.if_icmp .ne 5, 3) := by decide +kernel
theorem dX3_isCutFrom_38 : decode cX3_isCutFrom 38 = .ok (.iconst 1, 1) := by decide +kernel
theorem dX3_isCutFrom_39 : decode cX3_isCutFrom 39 = .ok (.ireturn, 1) := by decide +kernel
theorem dX3_isCutFrom_40 : decode cX3_isCutFrom 40 = .ok (.iinc 2 1, 3) := by decide +kernel
theorem dX3_isCutFrom_43 : decode cX3_isCutFrom 43 = .ok (.goto (-41), 3) := by decide +kernel
theorem dX3_isCutFrom_46 : decode cX3_isCutFrom 46 = .ok (.iconst 0, 1) := by decide +kernel
theorem dX3_isCutFrom_47 : decode cX3_isCutFrom 47 = .ok (.ireturn, 1) := by decide +kernel
theorem dX3_cutOrders_0 : decode cX3_cutOrders 0 = .ok (.iconst 0, 1) := by decide +kernel
theorem dX3_cutOrders_1 : decode cX3_cutOrders 1 = .ok (.istore_n 1, 1) := by decide +kernel
theorem dX3_cutOrders_2 : decode cX3_cutOrders 2 = .ok (.iconst 0, 1) := by decide +kernel
theorem dX3_cutOrders_3 : decode cX3_cutOrders 3 = .ok (.istore_n 2, 1) := by decide +kernel
theorem dX3_cutOrders_4 : decode cX3_cutOrders 4 = .ok (.iload_n 2, 1) := by decide +kernel
theorem dX3_cutOrders_5 : decode cX3_cutOrders 5 = .ok (.aload_n 0, 1) := by decide +kernel
theorem dX3_cutOrders_6 : decode cX3_cutOrders 6 = .ok (.getfield 143, 3) := by decide +kernel
theorem dX3_cutOrders_9 : decode cX3_cutOrders 9 = .ok (.if_icmp .ge 39, 3) := by decide +kernel
theorem dX3_cutOrders_12 : decode cX3_cutOrders 12 = .ok (.iload_n 2, 1) := by decide +kernel
theorem dX3_cutOrders_13 : decode cX3_cutOrders 13 = .ok (.bipush 6, 2) := by decide +kernel
theorem dX3_cutOrders_15 : decode cX3_cutOrders 15 = .ok (.if_icmp .ge 33, 3) := by decide +kernel
theorem dX3_cutOrders_18 : decode cX3_cutOrders 18 = .ok (.aload_n 0, 1) := by decide +kernel
theorem dX3_cutOrders_19 : decode cX3_cutOrders 19 = .ok (.getfield 26, 3) := by decide +kernel
theorem dX3_cutOrders_22 : decode cX3_cutOrders 22 = .ok (.iload_n 2, 1) := by decide +kernel
theorem dX3_cutOrders_23 : decode cX3_cutOrders 23 = .ok (.aaload, 1) := by decide +kernel
theorem dX3_cutOrders_24 : decode cX3_cutOrders 24 = .ok (.ifnull 18, 3) := by decide +kernel
theorem dX3_cutOrders_27 : decode cX3_cutOrders 27 = .ok (.aload_n 0, 1) := by decide +kernel
theorem dX3_cutOrders_28 : decode cX3_cutOrders 28 = .ok (.getfield 26, 3) := by decide +kernel
theorem dX3_cutOrders_31 : decode cX3_cutOrders 31 = .ok (.iload_n 2, 1) := by decide +kernel
theorem dX3_cutOrders_32 : decode cX3_cutOrders 32 = .ok (.aaload, 1) := by decide +kernel
theorem dX3_cutOrders_33 : decode cX3_cutOrders 33 = .ok (.getfield 292, 3) := by decide +kernel
theorem dX3_cutOrders_36 : decode cX3_cutOrders 36 = .ok (.ifCond .lt 6, 3) := by decide +kernel
theorem dX3_cutOrders_39 : decode cX3_cutOrders 39 = .ok (.iinc 1 1, 3) := by decide +kernel
theorem dX3_cutOrders_42 : decode cX3_cutOrders 42 = .ok (.iinc 2 1, 3) := by decide +kernel
theorem dX3_cutOrders_45 : decode cX3_cutOrders 45 = .ok (.goto (-41), 3) := by decide +kernel
theorem dX3_cutOrders_48 : decode cX3_cutOrders 48 = .ok (.iload_n 1, 1) := by decide +kernel
theorem dX3_cutOrders_49 : decode cX3_cutOrders 49 = .ok (.ireturn, 1) := by decide +kernel
theorem dX3_startTrial_0 : decode cX3_startTrial 0 = .ok (.iconst 0, 1) := by decide +kernel
theorem dX3_startTrial_1 : decode cX3_startTrial 1 = .ok (.istore_n 1, 1) := by decide +kernel
theorem dX3_startTrial_2 : decode cX3_startTrial 2 = .ok (.iload_n 1, 1) := by decide +kernel
theorem dX3_startTrial_3 : decode cX3_startTrial 3 = .ok (.aload_n 0, 1) := by decide +kernel
theorem dX3_startTrial_4 : decode cX3_startTrial 4 = .ok (.getfield 143, 3) := by decide +kernel
theorem dX3_startTrial_7 : decode cX3_startTrial 7 = .ok (.if_icmp .ge 60, 3) := by decide +kernel
theorem dX3_startTrial_10 : decode cX3_startTrial 10 = .ok (.iload_n 1, 1) := by decide +kernel
theorem dX3_startTrial_11 : decode cX3_startTrial 11 = .ok (.bipush 6, 2) := by decide +kernel
theorem dX3_startTrial_13 : decode cX3_startTrial 13 = .ok (.if_icmp .ge 54, 3) := by decide +kernel
theorem dX3_startTrial_16 : decode cX3_startTrial 16 = .ok (.aload_n 0, 1) := by decide +kernel
theorem dX3_startTrial_17 : decode cX3_startTrial 17 = .ok (.getfield 26, 3) := by decide +kernel
theorem dX3_startTrial_20 : decode cX3_startTrial 20 = .ok (.iload_n 1, 1) := by decide +kernel
theorem dX3_startTrial_21 : decode cX3_startTrial 21 = .ok (.aaload, 1) := by decide +kernel
theorem dX3_startTrial_22 : decode cX3_startTrial 22 = .ok (.ifnull 39, 3) := by decide +kernel
theorem dX3_startTrial_25 : decode cX3_startTrial 25 = .ok (.aload_n 0, 1) := by decide +kernel
theorem dX3_startTrial_26 : decode cX3_startTrial 26 = .ok (.getfield 26, 3) := by decide +kernel
theorem dX3_startTrial_29 : decode cX3_startTrial 29 = .ok (.iload_n 1, 1) := by decide +kernel
theorem dX3_startTrial_30 : decode cX3_startTrial 30 = .ok (.aaload, 1) := by decide +kernel
theorem dX3_startTrial_31 : decode cX3_startTrial 31 = .ok (.aload_n 0, 1) := by decide +kernel
theorem dX3_startTrial_32 : decode cX3_startTrial 32 = .ok (.getfield 26, 3) := by decide +kernel
theorem dX3_startTrial_35 : decode cX3_startTrial 35 = .ok (.iload_n 1, 1) := by decide +kernel
theorem dX3_startTrial_36 : decode cX3_startTrial 36 = .ok (.aaload, 1) := by decide +kernel
theorem dX3_startTrial_37 : decode cX3_startTrial 37 = .ok (.getfield 292, 3) := by decide +kernel
theorem dX3_startTrial_40 : decode cX3_startTrial 40 = .ok (.putfield 320, 3) := by decide +kernel
theorem dX3_startTrial_43 : decode cX3_startTrial 43 = .ok (.aload_n 0, 1) := by decide +kernel
theorem dX3_startTrial_44 : decode cX3_startTrial 44 = .ok (.getfield 26, 3) := by decide +kernel
theorem dX3_startTrial_47 : decode cX3_startTrial 47 = .ok (.iload_n 1, 1) := by decide +kernel
theorem dX3_startTrial_48 : decode cX3_startTrial 48 = .ok (.aaload, 1) := by decide +kernel
theorem dX3_startTrial_49 : decode cX3_startTrial 49 = .ok (.aload_n 0, 1) := by decide +kernel
theorem dX3_startTrial_50 : decode cX3_startTrial 50 = .ok (.getfield 26, 3) := by decide +kernel
theorem dX3_startTrial_53 : decode cX3_startTrial 53 = .ok (.iload_n 1, 1) := by decide +kernel
theorem dX3_startTrial_54 : decode cX3_startTrial 54 = .ok (.aaload, 1) := by decide +kernel
theorem dX3_startTrial_55 : decode cX3_startTrial 55 = .ok (.getfield 305, 3) := by decide +kernel
theorem dX3_startTrial_58 : decode cX3_startTrial 58 = .ok (.putfield 323, 3) := by decide +kernel
theorem dX3_startTrial_61 : decode cX3_startTrial 61 = .ok (.iinc 1 1, 3) := by decide +kernel
theorem dX3_startTrial_64 : decode cX3_startTrial 64 = .ok (.goto (-62), 3) := by decide +kernel
theorem dX3_startTrial_67 : decode cX3_startTrial 67 = .ok (.return_, 1) := by decide +kernel
theorem dX3_allFit_0 : decode cX3_allFit 0 = .ok (.aload_n 0, 1) := by decide +kernel
theorem dX3_allFit_1 : decode cX3_allFit 1 = .ok (.invokevirtual 298, 3) := by decide +kernel
theorem dX3_allFit_4 : decode cX3_allFit 4 = .ok (.iconst 0, 1) := by decide +kernel
theorem dX3_allFit_5 : decode cX3_allFit 5 = .ok (.istore_n 2, 1) := by decide +kernel
theorem dX3_allFit_6 : decode cX3_allFit 6 = .ok (.iload_n 2, 1) := by decide +kernel
theorem dX3_allFit_7 : decode cX3_allFit 7 = .ok (.aload_n 0, 1) := by decide +kernel
theorem dX3_allFit_8 : decode cX3_allFit 8 = .ok (.getfield 143, 3) := by decide +kernel
theorem dX3_allFit_11 : decode cX3_allFit 11 = .ok (.if_icmp .ge 68, 3) := by decide +kernel
theorem dX3_allFit_14 : decode cX3_allFit 14 = .ok (.iload_n 2, 1) := by decide +kernel
theorem dX3_allFit_15 : decode cX3_allFit 15 = .ok (.bipush 6, 2) := by decide +kernel
theorem dX3_allFit_17 : decode cX3_allFit 17 = .ok (.if_icmp .ge 62, 3) := by decide +kernel
theorem dX3_allFit_20 : decode cX3_allFit 20 = .ok (.aload_n 0, 1) := by decide +kernel
theorem dX3_allFit_21 : decode cX3_allFit 21 = .ok (.getfield 26, 3) := by decide +kernel
theorem dX3_allFit_24 : decode cX3_allFit 24 = .ok (.iload_n 2, 1) := by decide +kernel
theorem dX3_allFit_25 : decode cX3_allFit 25 = .ok (.aaload, 1) := by decide +kernel
theorem dX3_allFit_26 : decode cX3_allFit 26 = .ok (.astore_n 3, 1) := by decide +kernel
theorem dX3_allFit_27 : decode cX3_allFit 27 = .ok (.aload_n 3, 1) := by decide +kernel
theorem dX3_allFit_28 : decode cX3_allFit 28 = .ok (.ifnull 45, 3) := by decide +kernel
theorem dX3_allFit_31 : decode cX3_allFit 31 = .ok (.aload_n 3, 1) := by decide +kernel
theorem dX3_allFit_32 : decode cX3_allFit 32 = .ok (.getfield 292, 3) := by decide +kernel
theorem dX3_allFit_35 : decode cX3_allFit 35 = .ok (.ifCond .ge 38, 3) := by decide +kernel
theorem dX3_allFit_38 : decode cX3_allFit 38 = .ok (.aload_n 0, 1) := by decide +kernel
theorem dX3_allFit_39 : decode cX3_allFit 39 = .ok (.aload_n 3, 1) := by decide +kernel
theorem dX3_allFit_40 : decode cX3_allFit 40 = .ok (.iload_n 1, 1) := by decide +kernel
theorem dX3_allFit_41 : decode cX3_allFit 41 = .ok (.invokevirtual 301, 3) := by decide +kernel
theorem dX3_allFit_44 : decode cX3_allFit 44 = .ok (.istore 4, 2) := by decide +kernel
theorem dX3_allFit_46 : decode cX3_allFit 46 = .ok (.iload 4, 2) := by decide +kernel
theorem dX3_allFit_48 : decode cX3_allFit 48 = .ok (.ifCond .ge 5, 3) := by decide +kernel
theorem dX3_allFit_51 : decode cX3_allFit 51 = .ok (.iconst 0, 1) := by decide +kernel
theorem dX3_allFit_52 : decode cX3_allFit 52 = .ok (.ireturn, 1) := by decide +kernel
theorem dX3_allFit_53 : decode cX3_allFit 53 = .ok (.aload_n 3, 1) := by decide +kernel
theorem dX3_allFit_54 : decode cX3_allFit 54 = .ok (.iload 4, 2) := by decide +kernel
theorem dX3_allFit_56 : decode cX3_allFit 56 = .ok (.sipush 10000, 3) := by decide +kernel
theorem dX3_allFit_59 : decode cX3_allFit 59 = .ok (.idiv, 1) := by decide +kernel
theorem dX3_allFit_60 : decode cX3_allFit 60 = .ok (.putfield 320, 3) := by decide +kernel
theorem dX3_allFit_63 : decode cX3_allFit 63 = .ok (.aload_n 3, 1) := by decide +kernel
theorem dX3_allFit_64 : decode cX3_allFit 64 = .ok (.iload 4, 2) := by decide +kernel
theorem dX3_allFit_66 : decode cX3_allFit 66 = .ok (.sipush 10000, 3) := by decide +kernel
theorem dX3_allFit_69 : decode cX3_allFit 69 = .ok (.irem, 1) := by decide +kernel
theorem dX3_allFit_70 : decode cX3_allFit 70 = .ok (.putfield 323, 3) := by decide +kernel
theorem dX3_allFit_73 : decode cX3_allFit 73 = .ok (.iinc 2 1, 3) := by decide +kernel
theorem dX3_allFit_76 : decode cX3_allFit 76 = .ok (.goto (-70), 3) := by decide +kernel
theorem dX3_allFit_79 : decode cX3_allFit 79 = .ok (.iconst 1, 1) := by decide +kernel
theorem dX3_allFit_80 : decode cX3_allFit 80 = .ok (.ireturn, 1) := by decide +kernel
theorem dX3_firstFit_0 : decode cX3_firstFit 0 = .ok (.iconst 0, 1) := by decide +kernel
theorem dX3_firstFit_1 : decode cX3_firstFit 1 = .ok (.istore_n 3, 1) := by decide +kernel
theorem dX3_firstFit_2 : decode cX3_firstFit 2 = .ok (.iload_n 3, 1) := by decide +kernel
theorem dX3_firstFit_3 : decode cX3_firstFit 3 = .ok (.bipush 6, 2) := by decide +kernel
theorem dX3_firstFit_5 : decode cX3_firstFit 5 = .ok (.if_icmp .ge 40, 3) := by decide +kernel
theorem dX3_firstFit_8 : decode cX3_firstFit 8 = .ok (.iload_n 2, 1) := by decide +kernel
theorem dX3_firstFit_9 : decode cX3_firstFit 9 = .ok (.iload_n 3, 1) := by decide +kernel
theorem dX3_firstFit_10 : decode cX3_firstFit 10 = .ok (.ishr, 1) := by decide +kernel
theorem dX3_firstFit_11 : decode cX3_firstFit 11 = .ok (.iconst 1, 1) := by decide +kernel
theorem dX3_firstFit_12 : decode cX3_firstFit 12 = .ok (.iand, 1) := by decide +kernel
theorem dX3_firstFit_13 : decode cX3_firstFit 13 = .ok (.iconst 1, 1) := by decide +kernel
theorem dX3_firstFit_14 : decode cX3_firstFit 14 = .ok (.if_icmp .ne 25, 3) := by decide +kernel
theorem dX3_firstFit_17 : decode cX3_firstFit 17 = .ok (.aload_n 0, 1) := by decide +kernel
theorem dX3_firstFit_18 : decode cX3_firstFit 18 = .ok (.iload_n 3, 1) := by decide +kernel
theorem dX3_firstFit_19 : decode cX3_firstFit 19 = .ok (.aload_n 1, 1) := by decide +kernel
theorem dX3_firstFit_20 : decode cX3_firstFit 20 = .ok (.invokevirtual 326, 3) := by decide +kernel
theorem dX3_firstFit_23 : decode cX3_firstFit 23 = .ok (.istore 4, 2) := by decide +kernel
theorem dX3_firstFit_25 : decode cX3_firstFit 25 = .ok (.iload 4, 2) := by decide +kernel
theorem dX3_firstFit_27 : decode cX3_firstFit 27 = .ok (.ifCond .lt 12, 3) := by decide +kernel
theorem dX3_firstFit_30 : decode cX3_firstFit 30 = .ok (.sipush 10000, 3) := by decide +kernel
theorem dX3_firstFit_33 : decode cX3_firstFit 33 = .ok (.iload_n 3, 1) := by decide +kernel
theorem dX3_firstFit_34 : decode cX3_firstFit 34 = .ok (.imul, 1) := by decide +kernel
theorem dX3_firstFit_35 : decode cX3_firstFit 35 = .ok (.iload 4, 2) := by decide +kernel
theorem dX3_firstFit_37 : decode cX3_firstFit 37 = .ok (.iadd, 1) := by decide +kernel
theorem dX3_firstFit_38 : decode cX3_firstFit 38 = .ok (.ireturn, 1) := by decide +kernel
theorem dX3_firstFit_39 : decode cX3_firstFit 39 = .ok (.iinc 3 1, 3) := by decide +kernel
theorem dX3_firstFit_42 : decode cX3_firstFit 42 = .ok (.goto (-40), 3) := by decide +kernel
theorem dX3_firstFit_45 : decode cX3_firstFit 45 = .ok (.iconst (-1), 1) := by decide +kernel
theorem dX3_firstFit_46 : decode cX3_firstFit 46 = .ok (.ireturn, 1) := by decide +kernel
theorem dX3_fitOn_0 : decode cX3_fitOn 0 = .ok (.iload_n 1, 1) := by decide +kernel
theorem dX3_fitOn_1 : decode cX3_fitOn 1 = .ok (.invokestatic 266, 3) := by decide +kernel
theorem dX3_fitOn_4 : decode cX3_fitOn 4 = .ok (.ifCond .ne 5, 3) := by decide +kernel
theorem dX3_fitOn_7 : decode cX3_fitOn 7 = .ok (.iconst (-1), 1) := by decide +kernel
theorem dX3_fitOn_8 : decode cX3_fitOn 8 = .ok (.ireturn, 1) := by decide +kernel
theorem dX3_fitOn_9 : decode cX3_fitOn 9 = .ok (.aload_n 0, 1) := by decide +kernel
theorem dX3_fitOn_10 : decode cX3_fitOn 10 = .ok (.getfield 20, 3) := by decide +kernel
theorem dX3_fitOn_13 : decode cX3_fitOn 13 = .ok (.iload_n 1, 1) := by decide +kernel
theorem dX3_fitOn_14 : decode cX3_fitOn 14 = .ok (.aaload, 1) := by decide +kernel
theorem dX3_fitOn_15 : decode cX3_fitOn 15 = .ok (.astore_n 3, 1) := by decide +kernel
theorem dX3_fitOn_16 : decode cX3_fitOn 16 = .ok (.iconst 0, 1) := by decide +kernel
theorem dX3_fitOn_17 : decode cX3_fitOn 17 = .ok (.istore 4, 2) := by decide +kernel
theorem dX3_fitOn_19 : decode cX3_fitOn 19 = .ok (.iconst 0, 1) := by decide +kernel
theorem dX3_fitOn_20 : decode cX3_fitOn 20 = .ok (.istore 5, 2) := by decide +kernel
theorem dX3_fitOn_22 : decode cX3_fitOn 22 = .ok (.iload 5, 2) := by decide +kernel
theorem dX3_fitOn_24 : decode cX3_fitOn 24 = .ok (.aload_n 3, 1) := by decide +kernel
theorem dX3_fitOn_25 : decode cX3_fitOn 25 = .ok (.getfield 330, 3) := by decide +kernel
theorem dX3_fitOn_28 : decode cX3_fitOn 28 = .ok (.if_icmp .ge 82, 3) := by decide +kernel
theorem dX3_fitOn_31 : decode cX3_fitOn 31 = .ok (.iload 5, 2) := by decide +kernel
theorem dX3_fitOn_33 : decode cX3_fitOn 33 = .ok (.sipush 2000, 3) := by decide +kernel
theorem dX3_fitOn_36 : decode cX3_fitOn 36 = .ok (.if_icmp .ge 74, 3) := by decide +kernel
theorem dX3_fitOn_39 : decode cX3_fitOn 39 = .ok (.aload_n 3, 1) := by decide +kernel
theorem dX3_fitOn_40 : decode cX3_fitOn 40 = .ok (.getfield 333, 3) := by decide +kernel
theorem dX3_fitOn_43 : decode cX3_fitOn 43 = .ok (.iload 5, 2) := by decide +kernel
theorem dX3_fitOn_45 : decode cX3_fitOn 45 = .ok (.faload, 1) := by decide +kernel
theorem dX3_fitOn_46 : decode cX3_fitOn 46 = .ok (.aload_n 2, 1) := by decide +kernel
theorem dX3_fitOn_47 : decode cX3_fitOn 47 = .ok (.getfield 337, 3) := by decide +kernel
theorem dX3_fitOn_50 : decode cX3_fitOn 50 = .ok (.fcmp .g, 1) := by decide +kernel
theorem dX3_fitOn_51 : decode cX3_fitOn 51 = .ok (.ifCond .ge 20, 3) := by decide +kernel
theorem dX3_fitOn_54 : decode cX3_fitOn 54 = .ok (.iload 4, 2) := by decide +kernel
theorem dX3_fitOn_56 : decode cX3_fitOn 56 = .ok (.aload_n 3, 1) := by decide +kernel
theorem dX3_fitOn_57 : decode cX3_fitOn 57 = .ok (.getfield 340, 3) := by decide +kernel
theorem dX3_fitOn_60 : decode cX3_fitOn 60 = .ok (.iload 5, 2) := by decide +kernel
theorem dX3_fitOn_62 : decode cX3_fitOn 62 = .ok (.iaload, 1) := by decide +kernel
theorem dX3_fitOn_63 : decode cX3_fitOn 63 = .ok (.invokestatic 122, 3) := by decide +kernel
theorem dX3_fitOn_66 : decode cX3_fitOn 66 = .ok (.istore 4, 2) := by decide +kernel
theorem dX3_fitOn_68 : decode cX3_fitOn 68 = .ok (.goto 36, 3) := by decide +kernel
theorem dX3_fitOn_71 : decode cX3_fitOn 71 = .ok (.aload_n 0, 1) := by decide +kernel
theorem dX3_fitOn_72 : decode cX3_fitOn 72 = .ok (.iload_n 1, 1) := by decide +kernel
theorem dX3_fitOn_73 : decode cX3_fitOn 73 = .ok (.iload 4, 2) := by decide +kernel
theorem dX3_fitOn_75 : decode cX3_fitOn 75 = .ok (.aload_n 2, 1) := by decide +kernel
theorem dX3_fitOn_76 : decode cX3_fitOn 76 = .ok (.getfield 343, 3) := by decide +kernel
theorem dX3_fitOn_79 : decode cX3_fitOn 79 = .ok (.invokevirtual 344, 3) := by decide +kernel
theorem dX3_fitOn_82 : decode cX3_fitOn 82 = .ok (.istore 4, 2) := by decide +kernel
theorem dX3_fitOn_84 : decode cX3_fitOn 84 = .ok (.iload 4, 2) := by decide +kernel
theorem dX3_fitOn_86 : decode cX3_fitOn 86 = .ok (.aload_n 2, 1) := by decide +kernel
theorem dX3_fitOn_87 : decode cX3_fitOn 87 = .ok (.getfield 343, 3) := by decide +kernel
theorem dX3_fitOn_90 : decode cX3_fitOn 90 = .ok (.iadd, 1) := by decide +kernel
theorem dX3_fitOn_91 : decode cX3_fitOn 91 = .ok (.aload_n 3, 1) := by decide +kernel
theorem dX3_fitOn_92 : decode cX3_fitOn 92 = .ok (.getfield 340, 3) := by decide +kernel
theorem dX3_fitOn_95 : decode cX3_fitOn 95 = .ok (.iload 5, 2) := by decide +kernel
theorem dX3_fitOn_97 : decode cX3_fitOn 97 = .ok (.iaload, 1) := by decide +kernel
theorem dX3_fitOn_98 : decode cX3_fitOn 98 = .ok (.if_icmp .gt 6, 3) := by decide +kernel
theorem dX3_fitOn_101 : decode cX3_fitOn 101 = .ok (.iload 4, 2) := by decide +kernel
theorem dX3_fitOn_103 : decode cX3_fitOn 103 = .ok (.ireturn, 1) := by decide +kernel
theorem dX3_fitOn_104 : decode cX3_fitOn 104 = .ok (.iinc 5 1, 3) := by decide +kernel
theorem dX3_fitOn_107 : decode cX3_fitOn 107 = .ok (.goto (-85), 3) := by decide +kernel
theorem dX3_fitOn_110 : decode cX3_fitOn 110 = .ok (.iconst (-1), 1) := by decide +kernel
theorem dX3_fitOn_111 : decode cX3_fitOn 111 = .ok (.ireturn, 1) := by decide +kernel
theorem dX3_besideTrials_0 : decode cX3_besideTrials 0 = .ok (.iload_n 2, 1) := by decide +kernel
theorem dX3_besideTrials_1 : decode cX3_besideTrials 1 = .ok (.istore 4, 2) := by decide +kernel
theorem dX3_besideTrials_3 : decode cX3_besideTrials 3 = .ok (.iconst 0, 1) := by decide +kernel
theorem dX3_besideTrials_4 : decode cX3_besideTrials 4 = .ok (.istore 5, 2) := by decide +kernel
theorem dX3_besideTrials_6 : decode cX3_besideTrials 6 = .ok (.iload 5, 2) := by decide +kernel
theorem dX3_besideTrials_8 : decode cX3_besideTrials 8 = .ok (.bipush 6, 2) := by decide +kernel
theorem dX3_besideTrials_10 : decode cX3_besideTrials 10 = .ok (.if_icmp .ge 98, 3) := by decide +kernel
theorem dX3_besideTrials_13 : decode cX3_besideTrials 13 = .ok (.iconst 0, 1) := by decide +kernel
theorem dX3_besideTrials_14 : decode cX3_besideTrials 14 = .ok (.istore 6, 2) := by decide +kernel
theorem dX3_besideTrials_16 : decode cX3_besideTrials 16 = .ok (.iload 6, 2) := by decide +kernel
theorem dX3_besideTrials_18 : decode cX3_besideTrials 18 = .ok (.aload_n 0, 1) := by decide +kernel
theorem dX3_besideTrials_19 : decode cX3_besideTrials 19 = .ok (.getfield 143, 3) := by decide +kernel
theorem dX3_besideTrials_22 : decode cX3_besideTrials 22 = .ok (.if_icmp .ge 80, 3) := by decide +kernel
theorem dX3_besideTrials_25 : decode cX3_besideTrials 25 = .ok (.iload 6, 2) := by decide +kernel
theorem dX3_besideTrials_27 : decode cX3_besideTrials 27 = .ok (.bipush 6, 2) := by decide +kernel
theorem dX3_besideTrials_29 : decode cX3_besideTrials 29 = .ok (.if_icmp .ge 73, 3) := by decide +kernel
theorem dX3_besideTrials_32 : decode cX3_besideTrials 32 = .ok (.aload_n 0, 1) := by decide +kernel
theorem dX3_besideTrials_33 : decode cX3_besideTrials 33 = .ok (.getfield 26, 3) := by decide +kernel
theorem dX3_besideTrials_36 : decode cX3_besideTrials 36 = .ok (.iload 6, 2) := by decide +kernel
theorem dX3_besideTrials_38 : decode cX3_besideTrials 38 = .ok (.aaload, 1) := by decide +kernel
theorem dX3_besideTrials_39 : decode cX3_besideTrials 39 = .ok (.astore 7, 2) := by decide +kernel
theorem dX3_besideTrials_41 : decode cX3_besideTrials 41 = .ok (.aload 7, 2) := by decide +kernel
theorem dX3_besideTrials_43 : decode cX3_besideTrials 43 = .ok (.ifnull 53, 3) := by decide +kernel
theorem dX3_besideTrials_46 : decode cX3_besideTrials 46 = .ok (.aload 7, 2) := by decide +kernel
theorem dX3_besideTrials_48 : decode cX3_besideTrials 48 = .ok (.getfield 320, 3) := by decide +kernel
theorem dX3_besideTrials_51 : decode cX3_besideTrials 51 = .ok (.iload_n 1, 1) := by decide +kernel
theorem dX3_besideTrials_52 : decode cX3_besideTrials 52 = .ok (.if_icmp .ne 44, 3) := by decide +kernel
theorem dX3_besideTrials_55 : decode cX3_besideTrials 55 = .ok (.iload 4, 2) := by decide +kernel
theorem dX3_besideTrials_57 : decode cX3_besideTrials 57 = .ok (.aload 7, 2) := by decide +kernel
theorem dX3_besideTrials_59 : decode cX3_besideTrials 59 = .ok (.getfield 323, 3) := by decide +kernel
theorem dX3_besideTrials_62 : decode cX3_besideTrials 62 = .ok (.aload 7, 2) := by decide +kernel
theorem dX3_besideTrials_64 : decode cX3_besideTrials 64 = .ok (.getfield 343, 3) := by decide +kernel
theorem dX3_besideTrials_67 : decode cX3_besideTrials 67 = .ok (.iadd, 1) := by decide +kernel
theorem dX3_besideTrials_68 : decode cX3_besideTrials 68 = .ok (.if_icmp .ge 28, 3) := by decide +kernel
theorem dX3_besideTrials_71 : decode cX3_besideTrials 71 = .ok (.aload 7, 2) := by decide +kernel
theorem dX3_besideTrials_73 : decode cX3_besideTrials 73 = .ok (.getfield 323, 3) := by decide +kernel
theorem dX3_besideTrials_76 : decode cX3_besideTrials 76 = .ok (.iload 4, 2) := by decide +kernel
theorem dX3_besideTrials_78 : decode cX3_besideTrials 78 = .ok (.iload_n 3, 1) := by decide +kernel
theorem dX3_besideTrials_79 : decode cX3_besideTrials 79 = .ok (.iadd, 1) := by decide +kernel
theorem dX3_besideTrials_80 : decode cX3_besideTrials 80 = .ok (.if_icmp .ge 16, 3) := by decide +kernel
theorem dX3_besideTrials_83 : decode cX3_besideTrials 83 = .ok (.aload 7, 2) := by decide +kernel
theorem dX3_besideTrials_85 : decode cX3_besideTrials 85 = .ok (.getfield 323, 3) := by decide +kernel
theorem dX3_besideTrials_88 : decode cX3_besideTrials 88 = .ok (.aload 7, 2) := by decide +kernel
theorem dX3_besideTrials_90 : decode cX3_besideTrials 90 = .ok (.getfield 343, 3) := by decide +kernel
theorem dX3_besideTrials_93 : decode cX3_besideTrials 93 = .ok (.iadd, 1) := by decide +kernel
theorem dX3_besideTrials_94 : decode cX3_besideTrials 94 = .ok (.istore 4, 2) := by decide +kernel
theorem dX3_besideTrials_96 : decode cX3_besideTrials 96 = .ok (.iinc 6 1, 3) := by decide +kernel
theorem dX3_besideTrials_99 : decode cX3_besideTrials 99 = .ok (.goto (-83), 3) := by decide +kernel
theorem dX3_besideTrials_102 : decode cX3_besideTrials 102 = .ok (.iinc 5 1, 3) := by decide +kernel
theorem dX3_besideTrials_105 : decode cX3_besideTrials 105 = .ok (.goto (-99), 3) := by decide +kernel
theorem dX3_besideTrials_108 : decode cX3_besideTrials 108 = .ok (.iload 4, 2) := by decide +kernel
theorem dX3_besideTrials_110 : decode cX3_besideTrials 110 = .ok (.ireturn, 1) := by decide +kernel
theorem dX3_measureReels_0 : decode cX3_measureReels 0 = .ok (.iconst 0, 1) := by decide +kernel
theorem dX3_measureReels_1 : decode cX3_measureReels 1 = .ok (.istore_n 1, 1) := by decide +kernel
theorem dX3_measureReels_2 : decode cX3_measureReels 2 = .ok (.iload_n 1, 1) := by decide +kernel
theorem dX3_measureReels_3 : decode cX3_measureReels 3 = .ok (.bipush 6, 2) := by decide +kernel
theorem dX3_measureReels_5 : decode cX3_measureReels 5 = .ok (.if_icmp .ge 18, 3) := by decide +kernel
theorem dX3_measureReels_8 : decode cX3_measureReels 8 = .ok (.aload_n 0, 1) := by decide +kernel
theorem dX3_measureReels_9 : decode cX3_measureReels 9 = .ok (.getfield 20, 3) := by decide +kernel
theorem dX3_measureReels_12 : decode cX3_measureReels 12 = .ok (.iload_n 1, 1) := by decide +kernel
theorem dX3_measureReels_13 : decode cX3_measureReels 13 = .ok (.aaload, 1) := by decide +kernel
theorem dX3_measureReels_14 : decode cX3_measureReels 14 = .ok (.invokestatic 347, 3) := by decide +kernel
theorem dX3_measureReels_17 : decode cX3_measureReels 17 = .ok (.iinc 1 1, 3) := by decide +kernel
theorem dX3_measureReels_20 : decode cX3_measureReels 20 = .ok (.goto (-18), 3) := by decide +kernel
theorem dX3_measureReels_23 : decode cX3_measureReels 23 = .ok (.return_, 1) := by decide +kernel
theorem dX3_measure_0 : decode cX3_measure 0 = .ok (.aload_n 0, 1) := by decide +kernel
theorem dX3_measure_1 : decode cX3_measure 1 = .ok (.getfield 270, 3) := by decide +kernel
theorem dX3_measure_4 : decode cX3_measure 4 = .ok (.astore_n 1, 1) := by decide +kernel
theorem dX3_measure_5 : decode cX3_measure 5 = .ok (.iconst 0, 1) := by decide +kernel
theorem dX3_measure_6 : decode cX3_measure 6 = .ok (.istore_n 2, 1) := by decide +kernel
theorem dX3_measure_7 : decode cX3_measure 7 = .ok (.aload_n 0, 1) := by decide +kernel
theorem dX3_measure_8 : decode cX3_measure 8 = .ok (.iconst 0, 1) := by decide +kernel
theorem dX3_measure_9 : decode cX3_measure 9 = .ok (.putfield 330, 3) := by decide +kernel
theorem dX3_measure_12 : decode cX3_measure 12 = .ok (.iconst 0, 1) := by decide +kernel
theorem dX3_measure_13 : decode cX3_measure 13 = .ok (.istore_n 3, 1) := by decide +kernel
theorem dX3_measure_14 : decode cX3_measure 14 = .ok (.aload_n 1, 1) := by decide +kernel
theorem dX3_measure_15 : decode cX3_measure 15 = .ok (.ifnull 63, 3) := by decide +kernel
theorem dX3_measure_18 : decode cX3_measure 18 = .ok (.iload_n 2, 1) := by decide +kernel
theorem dX3_measure_19 : decode cX3_measure 19 = .ok (.aload_n 1, 1) := by decide +kernel
theorem dX3_measure_20 : decode cX3_measure 20 = .ok (.getfield 113, 3) := by decide +kernel
theorem dX3_measure_23 : decode cX3_measure 23 = .ok (.if_icmp .ge 55, 3) := by decide +kernel
theorem dX3_measure_26 : decode cX3_measure 26 = .ok (.iload_n 3, 1) := by decide +kernel
theorem dX3_measure_27 : decode cX3_measure 27 = .ok (.sipush 2000, 3) := by decide +kernel
theorem dX3_measure_30 : decode cX3_measure 30 = .ok (.if_icmp .ge 48, 3) := by decide +kernel
theorem dX3_measure_33 : decode cX3_measure 33 = .ok (.aload_n 0, 1) := by decide +kernel
theorem dX3_measure_34 : decode cX3_measure 34 = .ok (.getfield 333, 3) := by decide +kernel
theorem dX3_measure_37 : decode cX3_measure 37 = .ok (.iload_n 3, 1) := by decide +kernel
theorem dX3_measure_38 : decode cX3_measure 38 = .ok (.aload_n 1, 1) := by decide +kernel
theorem dX3_measure_39 : decode cX3_measure 39 = .ok (.iload_n 2, 1) := by decide +kernel
theorem dX3_measure_40 : decode cX3_measure 40 = .ok (.iconst 0, 1) := by decide +kernel
theorem dX3_measure_41 : decode cX3_measure 41 = .ok (.invokestatic 192, 3) := by decide +kernel
theorem dX3_measure_44 : decode cX3_measure 44 = .ok (.fastore, 1) := by decide +kernel
theorem dX3_measure_45 : decode cX3_measure 45 = .ok (.iload_n 2, 1) := by decide +kernel
theorem dX3_measure_46 : decode cX3_measure 46 = .ok (.iconst 1, 1) := by decide +kernel
theorem dX3_measure_47 : decode cX3_measure 47 = .ok (.iadd, 1) := by decide +kernel
theorem dX3_measure_48 : decode cX3_measure 48 = .ok (.aload_n 1, 1) := by decide +kernel
theorem dX3_measure_49 : decode cX3_measure 49 = .ok (.iload_n 2, 1) := by decide +kernel
theorem dX3_measure_50 : decode cX3_measure 50 = .ok (.iconst 0, 1) := by decide +kernel
theorem dX3_measure_51 : decode cX3_measure 51 = .ok (.invokestatic 213, 3) := by decide +kernel
theorem dX3_measure_54 : decode cX3_measure 54 = .ok (.invokestatic 122, 3) := by decide +kernel
theorem dX3_measure_57 : decode cX3_measure 57 = .ok (.istore_n 2, 1) := by decide +kernel
theorem dX3_measure_58 : decode cX3_measure 58 = .ok (.aload_n 0, 1) := by decide +kernel
theorem dX3_measure_59 : decode cX3_measure 59 = .ok (.getfield 340, 3) := by decide +kernel
theorem dX3_measure_62 : decode cX3_measure 62 = .ok (.iload_n 3, 1) := by decide +kernel
theorem dX3_measure_63 : decode cX3_measure 63 = .ok (.iload_n 2, 1) := by decide +kernel
theorem dX3_measure_64 : decode cX3_measure 64 = .ok (.iastore, 1) := by decide +kernel
theorem dX3_measure_65 : decode cX3_measure 65 = .ok (.aload_n 0, 1) := by decide +kernel
theorem dX3_measure_66 : decode cX3_measure 66 = .ok (.iload_n 3, 1) := by decide +kernel
theorem dX3_measure_67 : decode cX3_measure 67 = .ok (.iconst 1, 1) := by decide +kernel
theorem dX3_measure_68 : decode cX3_measure 68 = .ok (.iadd, 1) := by decide +kernel
theorem dX3_measure_69 : decode cX3_measure 69 = .ok (.putfield 330, 3) := by decide +kernel
theorem dX3_measure_72 : decode cX3_measure 72 = .ok (.iinc 3 1, 3) := by decide +kernel
theorem dX3_measure_75 : decode cX3_measure 75 = .ok (.goto (-61), 3) := by decide +kernel
theorem dX3_measure_78 : decode cX3_measure 78 = .ok (.return_, 1) := by decide +kernel
theorem dX3_stage_0 : decode cX3_stage 0 = .ok (.iload_n 1, 1) := by decide +kernel
theorem dX3_stage_1 : decode cX3_stage 1 = .ok (.ifCond .lt 18, 3) := by decide +kernel
theorem dX3_stage_4 : decode cX3_stage 4 = .ok (.iload_n 1, 1) := by decide +kernel
theorem dX3_stage_5 : decode cX3_stage 5 = .ok (.bipush 8, 2) := by decide +kernel
theorem dX3_stage_7 : decode cX3_stage 7 = .ok (.if_icmp .gt 12, 3) := by decide +kernel
theorem dX3_stage_10 : decode cX3_stage 10 = .ok (.aload_n 0, 1) := by decide +kernel
theorem dX3_stage_11 : decode cX3_stage 11 = .ok (.getfield 149, 3) := by decide +kernel
theorem dX3_stage_14 : decode cX3_stage 14 = .ok (.bipush 10, 2) := by decide +kernel
theorem dX3_stage_16 : decode cX3_stage 16 = .ok (.if_icmp .lt 6, 3) := by decide +kernel
theorem dX3_stage_19 : decode cX3_stage 19 = .ok (.bipush (-2), 2) := by decide +kernel
theorem dX3_stage_21 : decode cX3_stage 21 = .ok (.ireturn, 1) := by decide +kernel
theorem dX3_stage_22 : decode cX3_stage 22 = .ok (.aload_n 0, 1) := by decide +kernel
theorem dX3_stage_23 : decode cX3_stage 23 = .ok (.getfield 30, 3) := by decide +kernel
theorem dX3_stage_26 : decode cX3_stage 26 = .ok (.aload_n 0, 1) := by decide +kernel
theorem dX3_stage_27 : decode cX3_stage 27 = .ok (.getfield 149, 3) := by decide +kernel
theorem dX3_stage_30 : decode cX3_stage 30 = .ok (.iload_n 1, 1) := by decide +kernel
theorem dX3_stage_31 : decode cX3_stage 31 = .ok (.iastore, 1) := by decide +kernel
theorem dX3_stage_32 : decode cX3_stage 32 = .ok (.aload_n 0, 1) := by decide +kernel
theorem dX3_stage_33 : decode cX3_stage 33 = .ok (.dup, 1) := by decide +kernel
theorem dX3_stage_34 : decode cX3_stage 34 = .ok (.getfield 149, 3) := by decide +kernel
theorem dX3_stage_37 : decode cX3_stage 37 = .ok (.iconst 1, 1) := by decide +kernel
theorem dX3_stage_38 : decode cX3_stage 38 = .ok (.iadd, 1) := by decide +kernel
theorem dX3_stage_39 : decode cX3_stage 39 = .ok (.putfield 149, 3) := by decide +kernel
theorem dX3_stage_42 : decode cX3_stage 42 = .ok (.aload_n 0, 1) := by decide +kernel
theorem dX3_stage_43 : decode cX3_stage 43 = .ok (.getfield 149, 3) := by decide +kernel
theorem dX3_stage_46 : decode cX3_stage 46 = .ok (.ireturn, 1) := by decide +kernel
theorem dX3_unstage_0 : decode cX3_unstage 0 = .ok (.aload_n 0, 1) := by decide +kernel
theorem dX3_unstage_1 : decode cX3_unstage 1 = .ok (.getfield 149, 3) := by decide +kernel
theorem dX3_unstage_4 : decode cX3_unstage 4 = .ok (.iconst 1, 1) := by decide +kernel
theorem dX3_unstage_5 : decode cX3_unstage 5 = .ok (.if_icmp .lt 12, 3) := by decide +kernel
theorem dX3_unstage_8 : decode cX3_unstage 8 = .ok (.aload_n 0, 1) := by decide +kernel
theorem dX3_unstage_9 : decode cX3_unstage 9 = .ok (.getfield 149, 3) := by decide +kernel
theorem dX3_unstage_12 : decode cX3_unstage 12 = .ok (.bipush 10, 2) := by decide +kernel
theorem dX3_unstage_14 : decode cX3_unstage 14 = .ok (.if_icmp .le 6, 3) := by decide +kernel
theorem dX3_unstage_17 : decode cX3_unstage 17 = .ok (.bipush (-2), 2) := by decide +kernel
theorem dX3_unstage_19 : decode cX3_unstage 19 = .ok (.ireturn, 1) := by decide +kernel
theorem dX3_unstage_20 : decode cX3_unstage 20 = .ok (.aload_n 0, 1) := by decide +kernel
theorem dX3_unstage_21 : decode cX3_unstage 21 = .ok (.dup, 1) := by decide +kernel
theorem dX3_unstage_22 : decode cX3_unstage 22 = .ok (.getfield 149, 3) := by decide +kernel
theorem dX3_unstage_25 : decode cX3_unstage 25 = .ok (.iconst 1, 1) := by decide +kernel
theorem dX3_unstage_26 : decode cX3_unstage 26 = .ok (.isub, 1) := by decide +kernel
theorem dX3_unstage_27 : decode cX3_unstage 27 = .ok (.putfield 149, 3) := by decide +kernel
theorem dX3_unstage_30 : decode cX3_unstage 30 = .ok (.aload_n 0, 1) := by decide +kernel
theorem dX3_unstage_31 : decode cX3_unstage 31 = .ok (.getfield 30, 3) := by decide +kernel
theorem dX3_unstage_34 : decode cX3_unstage 34 = .ok (.aload_n 0, 1) := by decide +kernel
theorem dX3_unstage_35 : decode cX3_unstage 35 = .ok (.getfield 149, 3) := by decide +kernel
theorem dX3_unstage_38 : decode cX3_unstage 38 = .ok (.iaload, 1) := by decide +kernel
theorem dX3_unstage_39 : decode cX3_unstage 39 = .ok (.ireturn, 1) := by decide +kernel
theorem dX3_pull_0 : decode cX3_pull 0 = .ok (.aload_n 0, 1) := by decide +kernel
theorem dX3_pull_1 : decode cX3_pull 1 = .ok (.aload_n 0, 1) := by decide +kernel
theorem dX3_pull_2 : decode cX3_pull 2 = .ok (.getfield 149, 3) := by decide +kernel
theorem dX3_pull_5 : decode cX3_pull 5 = .ok (.invokevirtual 351, 3) := by decide +kernel
theorem dX3_pull_8 : decode cX3_pull 8 = .ok (.lstore_n 3, 1) := by decide +kernel
theorem dX3_pull_9 : decode cX3_pull 9 = .ok (.lload_n 3, 1) := by decide +kernel
theorem dX3_pull_10 : decode cX3_pull 10 = .ok (.lconst 0, 1) := by decide +kernel
theorem dX3_pull_11 : decode cX3_pull 11 = .ok (.lcmp, 1) := by decide +kernel
theorem dX3_pull_12 : decode cX3_pull 12 = .ok (.ifCond .ne 7, 3) := by decide +kernel
theorem dX3_pull_15 : decode cX3_pull 15 = .ok (.ldc2_w 254, 3) := by decide +kernel
theorem dX3_pull_18 : decode cX3_pull 18 = .ok (.lreturn, 1) := by decide +kernel
theorem dX3_pull_19 : decode cX3_pull 19 = .ok (.iload_n 1, 1) := by decide +kernel
theorem dX3_pull_20 : decode cX3_pull 20 = .ok (.iload_n 2, 1) := by decide +kernel
theorem dX3_pull_21 : decode cX3_pull 21 = .ok (.invokestatic 355, 3) := by decide +kernel
theorem dX3_pull_24 : decode cX3_pull 24 = .ok (.ifCond .ne 7, 3) := by decide +kernel
theorem dX3_pull_27 : decode cX3_pull 27 = .ok (.ldc2_w 225, 3) := by decide +kernel
theorem dX3_pull_30 : decode cX3_pull 30 = .ok (.lreturn, 1) := by decide +kernel
theorem dX3_pull_31 : decode cX3_pull 31 = .ok (.iload_n 1, 1) := by decide +kernel
theorem dX3_pull_32 : decode cX3_pull 32 = .ok (.i2l, 1) := by decide +kernel
theorem dX3_pull_33 : decode cX3_pull 33 = .ok (.lload_n 3, 1) := by decide +kernel
theorem dX3_pull_34 : decode cX3_pull 34 = .ok (.iload_n 2, 1) := by decide +kernel
theorem dX3_pull_35 : decode cX3_pull 35 = .ok (.invokestatic 358, 3) := by decide +kernel
theorem dX3_pull_38 : decode cX3_pull 38 = .ok (.lreturn, 1) := by decide +kernel
theorem dX3_stress_0 : decode cX3_stress 0 = .ok (.iload_n 2, 1) := by decide +kernel
theorem dX3_stress_1 : decode cX3_stress 1 = .ok (.iload_n 3, 1) := by decide +kernel
theorem dX3_stress_2 : decode cX3_stress 2 = .ok (.invokestatic 355, 3) := by decide +kernel
theorem dX3_stress_5 : decode cX3_stress 5 = .ok (.ifCond .eq 15, 3) := by decide +kernel
theorem dX3_stress_8 : decode cX3_stress 8 = .ok (.iload_n 1, 1) := by decide +kernel
theorem dX3_stress_9 : decode cX3_stress 9 = .ok (.ifCond .lt 11, 3) := by decide +kernel
theorem dX3_stress_12 : decode cX3_stress 12 = .ok (.iload_n 1, 1) := by decide +kernel
theorem dX3_stress_13 : decode cX3_stress 13 = .ok (.aload_n 0, 1) := by decide +kernel
theorem dX3_stress_14 : decode cX3_stress 14 = .ok (.getfield 149, 3) := by decide +kernel
theorem dX3_stress_17 : decode cX3_stress 17 = .ok (.if_icmp .lt 7, 3) := by decide +kernel
theorem dX3_stress_20 : decode cX3_stress 20 = .ok (.ldc2_w 225, 3) := by decide +kernel
theorem dX3_stress_23 : decode cX3_stress 23 = .ok (.lreturn, 1) := by decide +kernel
theorem dX3_stress_24 : decode cX3_stress 24 = .ok (.aload_n 0, 1) := by decide +kernel
theorem dX3_stress_25 : decode cX3_stress 25 = .ok (.iload_n 1, 1) := by decide +kernel
theorem dX3_stress_26 : decode cX3_stress 26 = .ok (.iconst 1, 1) := by decide +kernel
theorem dX3_stress_27 : decode cX3_stress 27 = .ok (.iadd, 1) := by decide +kernel
theorem dX3_stress_28 : decode cX3_stress 28 = .ok (.invokevirtual 351, 3) := by decide +kernel
theorem dX3_stress_31 : decode cX3_stress 31 = .ok (.lstore 4, 2) := by decide +kernel
theorem dX3_stress_33 : decode cX3_stress 33 = .ok (.lload 4, 2) := by decide +kernel
theorem dX3_stress_35 : decode cX3_stress 35 = .ok (.lconst 0, 1) := by decide +kernel
theorem dX3_stress_36 : decode cX3_stress 36 = .ok (.lcmp, 1) := by decide +kernel
theorem dX3_stress_37 : decode cX3_stress 37 = .ok (.ifCond .ne 7, 3) := by decide +kernel
theorem dX3_stress_40 : decode cX3_stress 40 = .ok (.ldc2_w 254, 3) := by decide +kernel
theorem dX3_stress_43 : decode cX3_stress 43 = .ok (.lreturn, 1) := by decide +kernel
theorem dX3_stress_44 : decode cX3_stress 44 = .ok (.iload_n 2, 1) := by decide +kernel
theorem dX3_stress_45 : decode cX3_stress 45 = .ok (.i2l, 1) := by decide +kernel
theorem dX3_stress_46 : decode cX3_stress 46 = .ok (.lload 4, 2) := by decide +kernel
theorem dX3_stress_48 : decode cX3_stress 48 = .ok (.iload_n 3, 1) := by decide +kernel
theorem dX3_stress_49 : decode cX3_stress 49 = .ok (.invokestatic 358, 3) := by decide +kernel
theorem dX3_stress_52 : decode cX3_stress 52 = .ok (.lreturn, 1) := by decide +kernel
theorem dX3_canAskLoad_0 : decode cX3_canAskLoad 0 = .ok (.iload_n 0, 1) := by decide +kernel
theorem dX3_canAskLoad_1 : decode cX3_canAskLoad 1 = .ok (.ifCond .lt 22, 3) := by decide +kernel
theorem dX3_canAskLoad_4 : decode cX3_canAskLoad 4 = .ok (.iload_n 0, 1) := by decide +kernel
theorem dX3_canAskLoad_5 : decode cX3_canAskLoad 5 = .ok (.ldc 232, 2) := by decide +kernel
theorem dX3_canAskLoad_7 : decode cX3_canAskLoad 7 = .ok (.if_icmp .gt 16, 3) := by decide +kernel
theorem dX3_canAskLoad_10 : decode cX3_canAskLoad 10 = .ok (.iload_n 1, 1) := by decide +kernel
theorem dX3_canAskLoad_11 : decode cX3_canAskLoad 11 = .ok (.ifCond .eq 8, 3) := by decide +kernel
theorem dX3_canAskLoad_14 : decode cX3_canAskLoad 14 = .ok (.iload_n 1, 1) := by decide +kernel
theorem dX3_canAskLoad_15 : decode cX3_canAskLoad 15 = .ok (.iconst 1, 1) := by decide +kernel
theorem dX3_canAskLoad_16 : decode cX3_canAskLoad 16 = .ok (.if_icmp .ne 7, 3) := by decide +kernel
theorem dX3_canAskLoad_19 : decode cX3_canAskLoad 19 = .ok (.iconst 1, 1) := by decide +kernel
theorem dX3_canAskLoad_20 : decode cX3_canAskLoad 20 = .ok (.goto 4, 3) := by decide +kernel
theorem dX3_canAskLoad_23 : decode cX3_canAskLoad 23 = .ok (.iconst 0, 1) := by decide +kernel
theorem dX3_canAskLoad_24 : decode cX3_canAskLoad 24 = .ok (.ireturn, 1) := by decide +kernel
theorem dX3_ropesOfFirst_0 : decode cX3_ropesOfFirst 0 = .ok (.lconst 1, 1) := by decide +kernel
theorem dX3_ropesOfFirst_1 : decode cX3_ropesOfFirst 1 = .ok (.lstore_n 2, 1) := by decide +kernel
theorem dX3_ropesOfFirst_2 : decode cX3_ropesOfFirst 2 = .ok (.iconst 0, 1) := by decide +kernel
theorem dX3_ropesOfFirst_3 : decode cX3_ropesOfFirst 3 = .ok (.istore 4, 2) := by decide +kernel
theorem dX3_ropesOfFirst_5 : decode cX3_ropesOfFirst 5 = .ok (.iload 4, 2) := by decide +kernel
theorem dX3_ropesOfFirst_7 : decode cX3_ropesOfFirst 7 = .ok (.iload_n 1, 1) := by decide +kernel
theorem dX3_ropesOfFirst_8 : decode cX3_ropesOfFirst 8 = .ok (.if_icmp .ge 27, 3) := by decide +kernel
theorem dX3_ropesOfFirst_11 : decode cX3_ropesOfFirst 11 = .ok (.iload 4, 2) := by decide +kernel
theorem dX3_ropesOfFirst_13 : decode cX3_ropesOfFirst 13 = .ok (.bipush 10, 2) := by decide +kernel
theorem dX3_ropesOfFirst_15 : decode cX3_ropesOfFirst 15 = .ok (.if_icmp .ge 20, 3) := by decide +kernel
theorem dX3_ropesOfFirst_18 : decode cX3_ropesOfFirst 18 = .ok (.lload_n 2, 1) := by decide +kernel
theorem dX3_ropesOfFirst_19 : decode cX3_ropesOfFirst 19 = .ok (.aload_n 0, 1) := by decide +kernel
theorem dX3_ropesOfFirst_20 : decode cX3_ropesOfFirst 20 = .ok (.getfield 30, 3) := by decide +kernel
theorem dX3_ropesOfFirst_23 : decode cX3_ropesOfFirst 23 = .ok (.iload 4, 2) := by decide +kernel
theorem dX3_ropesOfFirst_25 : decode cX3_ropesOfFirst 25 = .ok (.iaload, 1) := by decide +kernel
theorem dX3_ropesOfFirst_26 : decode cX3_ropesOfFirst 26 = .ok (.i2l, 1) := by decide +kernel
theorem dX3_ropesOfFirst_27 : decode cX3_ropesOfFirst 27 = .ok (.lmul, 1) := by decide +kernel
theorem dX3_ropesOfFirst_28 : decode cX3_ropesOfFirst 28 = .ok (.lstore_n 2, 1) := by decide +kernel
theorem dX3_ropesOfFirst_29 : decode cX3_ropesOfFirst 29 = .ok (.iinc 4 1, 3) := by decide +kernel
theorem dX3_ropesOfFirst_32 : decode cX3_ropesOfFirst 32 = .ok (.goto (-27), 3) := by decide +kernel
theorem dX3_ropesOfFirst_35 : decode cX3_ropesOfFirst 35 = .ok (.lload_n 2, 1) := by decide +kernel
theorem dX3_ropesOfFirst_36 : decode cX3_ropesOfFirst 36 = .ok (.lreturn, 1) := by decide +kernel
theorem dX3_lowestTerms_0 : decode cX3_lowestTerms 0 = .ok (.lload_n 0, 1) := by decide +kernel
theorem dX3_lowestTerms_1 : decode cX3_lowestTerms 1 = .ok (.lload_n 2, 1) := by decide +kernel
theorem dX3_lowestTerms_2 : decode cX3_lowestTerms 2 = .ok (.invokestatic 362, 3) := by decide +kernel
theorem dX3_lowestTerms_5 : decode cX3_lowestTerms 5 = .ok (.lstore 5, 2) := by decide +kernel
theorem dX3_lowestTerms_7 : decode cX3_lowestTerms 7 = .ok (.lload 5, 2) := by decide +kernel
theorem dX3_lowestTerms_9 : decode cX3_lowestTerms 9 = .ok (.lconst 0, 1) := by decide +kernel
theorem dX3_lowestTerms_10 : decode cX3_lowestTerms 10 = .ok (.lcmp, 1) := by decide +kernel
theorem dX3_lowestTerms_11 : decode cX3_lowestTerms 11 = .ok (.ifCond .ne 7, 3) := by decide +kernel
theorem dX3_lowestTerms_14 : decode cX3_lowestTerms 14 = .ok (.ldc2_w 225, 3) := by decide +kernel
theorem dX3_lowestTerms_17 : decode cX3_lowestTerms 17 = .ok (.lreturn, 1) := by decide +kernel
theorem dX3_lowestTerms_18 : decode cX3_lowestTerms 18 = .ok (.iload 4, 2) := by decide +kernel
theorem dX3_lowestTerms_20 : decode cX3_lowestTerms 20 = .ok (.ifCond .ne 10, 3) := by decide +kernel
theorem dX3_lowestTerms_23 : decode cX3_lowestTerms 23 = .ok (.lload_n 0, 1) := by decide +kernel
theorem dX3_lowestTerms_24 : decode cX3_lowestTerms 24 = .ok (.lload 5, 2) := by decide +kernel
theorem dX3_lowestTerms_26 : decode cX3_lowestTerms 26 = .ok (.ldiv, 1) := by decide +kernel
theorem dX3_lowestTerms_27 : decode cX3_lowestTerms 27 = .ok (.goto 7, 3) := by decide +kernel
theorem dX3_lowestTerms_30 : decode cX3_lowestTerms 30 = .ok (.lload_n 2, 1) := by decide +kernel
theorem dX3_lowestTerms_31 : decode cX3_lowestTerms 31 = .ok (.lload 5, 2) := by decide +kernel
theorem dX3_lowestTerms_33 : decode cX3_lowestTerms 33 = .ok (.ldiv, 1) := by decide +kernel
theorem dX3_lowestTerms_34 : decode cX3_lowestTerms 34 = .ok (.lreturn, 1) := by decide +kernel
theorem dX3_greatestDivisor_0 : decode cX3_greatestDivisor 0 = .ok (.lload_n 0, 1) := by decide +kernel
theorem dX3_greatestDivisor_1 : decode cX3_greatestDivisor 1 = .ok (.lstore 4, 2) := by decide +kernel
theorem dX3_greatestDivisor_3 : decode cX3_greatestDivisor 3 = .ok (.lload_n 2, 1) := by decide +kernel
theorem dX3_greatestDivisor_4 : decode cX3_greatestDivisor 4 = .ok (.lstore 6, 2) := by decide +kernel
theorem dX3_greatestDivisor_6 : decode cX3_greatestDivisor 6 = .ok (.iconst 0, 1) := by decide +kernel
theorem dX3_greatestDivisor_7 : decode cX3_greatestDivisor 7 = .ok (.istore 8, 2) := by decide +kernel
theorem dX3_greatestDivisor_9 : decode cX3_greatestDivisor 9 = .ok (.iload 8, 2) := by decide +kernel
theorem dX3_greatestDivisor_11 : decode cX3_greatestDivisor 11 = .ok (.bipush 100, 2) := by decide +kernel
theorem dX3_greatestDivisor_13 : decode cX3_greatestDivisor 13 = .ok (.if_icmp .ge 31, 3) := by decide +kernel
theorem dX3_greatestDivisor_16 : decode cX3_greatestDivisor 16 = .ok (.lload 6, 2) := by decide +kernel
theorem dX3_greatestDivisor_18 : decode cX3_greatestDivisor 18 = .ok (.lconst 0, 1) := by decide +kernel
theorem dX3_greatestDivisor_19 : decode cX3_greatestDivisor 19 = .ok (.lcmp, 1) := by decide +kernel
theorem dX3_greatestDivisor_20 : decode cX3_greatestDivisor 20 = .ok (.ifCond .eq 24, 3) := by decide +kernel
theorem dX3_greatestDivisor_23 : decode cX3_greatestDivisor 23 = .ok (.lload 4, 2) := by decide +kernel
theorem dX3_greatestDivisor_25 : decode cX3_greatestDivisor 25 = .ok (.lload 6, 2) := by decide +kernel
theorem dX3_greatestDivisor_27 : decode cX3_greatestDivisor 27 = .ok (.lrem, 1) := by decide +kernel
theorem dX3_greatestDivisor_28 : decode cX3_greatestDivisor 28 = .ok (.lstore 9, 2) := by decide +kernel
theorem dX3_greatestDivisor_30 : decode cX3_greatestDivisor 30 = .ok (.lload 6, 2) := by decide +kernel
theorem dX3_greatestDivisor_32 : decode cX3_greatestDivisor 32 = .ok (.lstore 4, 2) := by decide +kernel
theorem dX3_greatestDivisor_34 : decode cX3_greatestDivisor 34 = .ok (.lload 9, 2) := by decide +kernel
theorem dX3_greatestDivisor_36 : decode cX3_greatestDivisor 36 = .ok (.lstore 6, 2) := by decide +kernel
theorem dX3_greatestDivisor_38 : decode cX3_greatestDivisor 38 = .ok (.iinc 8 1, 3) := by decide +kernel
theorem dX3_greatestDivisor_41 : decode cX3_greatestDivisor 41 = .ok (.goto (-32), 3) := by decide +kernel
theorem dX3_greatestDivisor_44 : decode cX3_greatestDivisor 44 = .ok (.lload 4, 2) := by decide +kernel
theorem dX3_greatestDivisor_46 : decode cX3_greatestDivisor 46 = .ok (.lreturn, 1) := by decide +kernel
theorem dJ9_max_7cf53_0 : decode cJ9_max_7cf53 0 = .ok (.iload_n 0, 1) := by decide +kernel
theorem dJ9_max_7cf53_1 : decode cJ9_max_7cf53 1 = .ok (.iload_n 1, 1) := by decide +kernel
theorem dJ9_max_7cf53_2 : decode cJ9_max_7cf53 2 = .ok (.if_icmp .lt 7, 3) := by decide +kernel
theorem dJ9_max_7cf53_5 : decode cJ9_max_7cf53 5 = .ok (.iload_n 0, 1) := by decide +kernel
theorem dJ9_max_7cf53_6 : decode cJ9_max_7cf53 6 = .ok (.goto 4, 3) := by decide +kernel
theorem dJ9_max_7cf53_9 : decode cJ9_max_7cf53 9 = .ok (.iload_n 1, 1) := by decide +kernel
theorem dJ9_max_7cf53_10 : decode cJ9_max_7cf53 10 = .ok (.ireturn, 1) := by decide +kernel
theorem dJ9_min_7cf53_0 : decode cJ9_min_7cf53 0 = .ok (.iload_n 0, 1) := by decide +kernel
theorem dJ9_min_7cf53_1 : decode cJ9_min_7cf53 1 = .ok (.iload_n 1, 1) := by decide +kernel
theorem dJ9_min_7cf53_2 : decode cJ9_min_7cf53 2 = .ok (.if_icmp .gt 7, 3) := by decide +kernel
theorem dJ9_min_7cf53_5 : decode cJ9_min_7cf53 5 = .ok (.iload_n 0, 1) := by decide +kernel
theorem dJ9_min_7cf53_6 : decode cJ9_min_7cf53 6 = .ok (.goto 4, 3) := by decide +kernel
theorem dJ9_min_7cf53_9 : decode cJ9_min_7cf53 9 = .ok (.iload_n 1, 1) := by decide +kernel
theorem dJ9_min_7cf53_10 : decode cJ9_min_7cf53 10 = .ok (.ireturn, 1) := by decide +kernel
