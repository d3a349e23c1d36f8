theorem d_M_end_22 : decode prog_13_method_35_code 22 = .ok (.dup, 1) := by decide +kernel
theorem d_M_end_23 : decode prog_13_method_35_code 23 = .ok (.getfield 84, 3) := by decide +kernel
theorem d_M_end_26 : decode prog_13_method_35_code 26 = .ok (.iconst 1, 1) := by decide +kernel
theorem d_M_end_27 : decode prog_13_method_35_code 27 = .ok (.iadd, 1) := by decide +kernel
theorem d_M_end_28 : decode prog_13_method_35_code 28 = .ok (.putfield 84, 3) := by decide +kernel
theorem d_M_end_31 : decode prog_13_method_35_code 31 = .ok (.return_, 1) := by decide +kernel
theorem d_M_misses_0 : decode prog_13_method_33_code 0 = .ok (.iconst 0, 1) := by decide +kernel
theorem d_M_misses_1 : decode prog_13_method_33_code 1 = .ok (.istore 4, 2) := by decide +kernel
theorem d_M_misses_3 : decode prog_13_method_33_code 3 = .ok (.iload_n 2, 1) := by decide +kernel
theorem d_M_misses_4 : decode prog_13_method_33_code 4 = .ok (.istore 5, 2) := by decide +kernel
theorem d_M_misses_6 : decode prog_13_method_33_code 6 = .ok (.iload 5, 2) := by decide +kernel
theorem d_M_misses_8 : decode prog_13_method_33_code 8 = .ok (.iload_n 3, 1) := by decide +kernel
theorem d_M_misses_9 : decode prog_13_method_33_code 9 = .ok (.if_icmp .ge 46, 3) := by decide +kernel
theorem d_M_misses_12 : decode prog_13_method_33_code 12 = .ok (.iload 4, 2) := by decide +kernel
theorem d_M_misses_14 : decode prog_13_method_33_code 14 = .ok (.ifCond .ne 28, 3) := by decide +kernel
theorem d_M_misses_17 : decode prog_13_method_33_code 17 = .ok (.aload_n 0, 1) := by decide +kernel
theorem d_M_misses_18 : decode prog_13_method_33_code 18 = .ok (.getfield 18, 3) := by decide +kernel
theorem d_M_misses_21 : decode prog_13_method_33_code 21 = .ok (.iconst 2, 1) := by decide +kernel
theorem d_M_misses_22 : decode prog_13_method_33_code 22 = .ok (.aaload, 1) := by decide +kernel
theorem d_M_misses_23 : decode prog_13_method_33_code 23 = .ok (.iload 5, 2) := by decide +kernel
theorem d_M_misses_25 : decode prog_13_method_33_code 25 = .ok (.iaload, 1) := by decide +kernel
theorem d_M_misses_26 : decode prog_13_method_33_code 26 = .ok (.iload_n 1, 1) := by decide +kernel
theorem d_M_misses_27 : decode prog_13_method_33_code 27 = .ok (.if_icmp .ne 19, 3) := by decide +kernel
theorem d_M_misses_30 : decode prog_13_method_33_code 30 = .ok (.aload_n 0, 1) := by decide +kernel
theorem d_M_misses_31 : decode prog_13_method_33_code 31 = .ok (.getfield 18, 3) := by decide +kernel
theorem d_M_misses_34 : decode prog_13_method_33_code 34 = .ok (.iconst 0, 1) := by decide +kernel
theorem d_M_misses_35 : decode prog_13_method_33_code 35 = .ok (.aaload, 1) := by decide +kernel
theorem d_M_misses_36 : decode prog_13_method_33_code 36 = .ok (.iload 5, 2) := by decide +kernel
theorem d_M_misses_38 : decode prog_13_method_33_code 38 = .ok (.iaload, 1) := by decide +kernel
theorem d_M_misses_39 : decode prog_13_method_33_code 39 = .ok (.ifCond .ne 7, 3) := by decide +kernel
theorem d_M_misses_42 : decode prog_13_method_33_code 42 = .ok (.iconst 1, 1) := by decide +kernel
theorem d_M_misses_43 : decode prog_13_method_33_code 43 = .ok (.goto 4, 3) := by decide +kernel
theorem d_M_misses_46 : decode prog_13_method_33_code 46 = .ok (.iconst 0, 1) := by decide +kernel
theorem d_M_misses_47 : decode prog_13_method_33_code 47 = .ok (.istore 4, 2) := by decide +kernel
theorem d_M_misses_49 : decode prog_13_method_33_code 49 = .ok (.iinc 5 1, 3) := by decide +kernel
theorem d_M_misses_52 : decode prog_13_method_33_code 52 = .ok (.goto (-46), 3) := by decide +kernel
theorem d_M_misses_55 : decode prog_13_method_33_code 55 = .ok (.iload 4, 2) := by decide +kernel
theorem d_M_misses_57 : decode prog_13_method_33_code 57 = .ok (.ireturn, 1) := by decide +kernel
theorem d_M_readRow_0 : decode prog_13_method_32_code 0 = .ok (.aload_n 0, 1) := by decide +kernel
theorem d_M_readRow_1 : decode prog_13_method_32_code 1 = .ok (.bipush 91, 2) := by decide +kernel
theorem d_M_readRow_3 : decode prog_13_method_32_code 3 = .ok (.invokevirtual 143, 3) := by decide +kernel
theorem d_M_readRow_6 : decode prog_13_method_32_code 6 = .ok (.aload_n 0, 1) := by decide +kernel
theorem d_M_readRow_7 : decode prog_13_method_32_code 7 = .ok (.bipush 93, 2) := by decide +kernel
theorem d_M_readRow_9 : decode prog_13_method_32_code 9 = .ok (.invokevirtual 111, 3) := by decide +kernel
theorem d_M_readRow_12 : decode prog_13_method_32_code 12 = .ok (.ifCond .eq 4, 3) := by decide +kernel
theorem d_M_readRow_15 : decode prog_13_method_32_code 15 = .ok (.return_, 1) := by decide +kernel
theorem d_M_readRow_16 : decode prog_13_method_32_code 16 = .ok (.aload_n 0, 1) := by decide +kernel
theorem d_M_readRow_17 : decode prog_13_method_32_code 17 = .ok (.getfield 87, 3) := by decide +kernel
theorem d_M_readRow_20 : decode prog_13_method_32_code 20 = .ok (.iconst (-1), 1) := by decide +kernel
theorem d_M_readRow_21 : decode prog_13_method_32_code 21 = .ok (.if_icmp .ne 28, 3) := by decide +kernel
theorem d_M_readRow_24 : decode prog_13_method_32_code 24 = .ok (.aload_n 0, 1) := by decide +kernel
theorem d_M_readRow_25 : decode prog_13_method_32_code 25 = .ok (.iload_n 1, 1) := by decide +kernel
theorem d_M_readRow_26 : decode prog_13_method_32_code 26 = .ok (.iload_n 2, 1) := by decide +kernel
theorem d_M_readRow_27 : decode prog_13_method_32_code 27 = .ok (.invokevirtual 211, 3) := by decide +kernel
theorem d_M_readRow_30 : decode prog_13_method_32_code 30 = .ok (.aload_n 0, 1) := by decide +kernel
theorem d_M_readRow_31 : decode prog_13_method_32_code 31 = .ok (.bipush 93, 2) := by decide +kernel
theorem d_M_readRow_33 : decode prog_13_method_32_code 33 = .ok (.invokevirtual 111, 3) := by decide +kernel
theorem d_M_readRow_36 : decode prog_13_method_32_code 36 = .ok (.ifCond .eq 4, 3) := by decide +kernel
theorem d_M_readRow_39 : decode prog_13_method_32_code 39 = .ok (.return_, 1) := by decide +kernel
theorem d_M_readRow_40 : decode prog_13_method_32_code 40 = .ok (.aload_n 0, 1) := by decide +kernel
theorem d_M_readRow_41 : decode prog_13_method_32_code 41 = .ok (.bipush 44, 2) := by decide +kernel
theorem d_M_readRow_43 : decode prog_13_method_32_code 43 = .ok (.invokevirtual 143, 3) := by decide +kernel
theorem d_M_readRow_46 : decode prog_13_method_32_code 46 = .ok (.goto (-30), 3) := by decide +kernel
theorem d_M_readRow_49 : decode prog_13_method_32_code 49 = .ok (.return_, 1) := by decide +kernel
theorem d_M_readValue_0 : decode prog_13_method_31_code 0 = .ok (.aload_n 0, 1) := by decide +kernel
theorem d_M_readValue_1 : decode prog_13_method_31_code 1 = .ok (.invokevirtual 108, 3) := by decide +kernel
theorem d_M_readValue_4 : decode prog_13_method_31_code 4 = .ok (.aload_n 0, 1) := by decide +kernel
theorem d_M_readValue_5 : decode prog_13_method_31_code 5 = .ok (.getfield 18, 3) := by decide +kernel
theorem d_M_readValue_8 : decode prog_13_method_31_code 8 = .ok (.iconst 1, 1) := by decide +kernel
theorem d_M_readValue_9 : decode prog_13_method_31_code 9 = .ok (.aaload, 1) := by decide +kernel
theorem d_M_readValue_10 : decode prog_13_method_31_code 10 = .ok (.iload_n 2, 1) := by decide +kernel
theorem d_M_readValue_11 : decode prog_13_method_31_code 11 = .ok (.iaload, 1) := by decide +kernel
theorem d_M_readValue_12 : decode prog_13_method_31_code 12 = .ok (.istore_n 3, 1) := by decide +kernel
theorem d_M_readValue_13 : decode prog_13_method_31_code 13 = .ok (.iload_n 3, 1) := by decide +kernel
theorem d_M_readValue_14 : decode prog_13_method_31_code 14 = .ok (.iconst 4, 1) := by decide +kernel
theorem d_M_readValue_15 : decode prog_13_method_31_code 15 = .ok (.if_icmp .ne 18, 3) := by decide +kernel
theorem d_M_readValue_18 : decode prog_13_method_31_code 18 = .ok (.aload_n 0, 1) := by decide +kernel
theorem d_M_readValue_19 : decode prog_13_method_31_code 19 = .ok (.aload_n 0, 1) := by decide +kernel
theorem d_M_readValue_20 : decode prog_13_method_31_code 20 = .ok (.iload_n 1, 1) := by decide +kernel
theorem d_M_readValue_21 : decode prog_13_method_31_code 21 = .ok (.iload_n 2, 1) := by decide +kernel
theorem d_M_readValue_22 : decode prog_13_method_31_code 22 = .ok (.lconst 0, 1) := by decide +kernel
theorem d_M_readValue_23 : decode prog_13_method_31_code 23 = .ok (.invokevirtual 193, 3) := by decide +kernel
theorem d_M_readValue_26 : decode prog_13_method_31_code 26 = .ok (.iload_n 2, 1) := by decide +kernel
theorem d_M_readValue_27 : decode prog_13_method_31_code 27 = .ok (.invokevirtual 197, 3) := by decide +kernel
theorem d_M_readValue_30 : decode prog_13_method_31_code 30 = .ok (.goto 91, 3) := by decide +kernel
theorem d_M_readValue_33 : decode prog_13_method_31_code 33 = .ok (.iload_n 3, 1) := by decide +kernel
theorem d_M_readValue_34 : decode prog_13_method_31_code 34 = .ok (.iconst 3, 1) := by decide +kernel
theorem d_M_readValue_35 : decode prog_13_method_31_code 35 = .ok (.if_icmp .ne 18, 3) := by decide +kernel
theorem d_M_readValue_38 : decode prog_13_method_31_code 38 = .ok (.aload_n 0, 1) := by decide +kernel
theorem d_M_readValue_39 : decode prog_13_method_31_code 39 = .ok (.iload_n 1, 1) := by decide +kernel
theorem d_M_readValue_40 : decode prog_13_method_31_code 40 = .ok (.iload_n 2, 1) := by decide +kernel
theorem d_M_readValue_41 : decode prog_13_method_31_code 41 = .ok (.lconst 0, 1) := by decide +kernel
theorem d_M_readValue_42 : decode prog_13_method_31_code 42 = .ok (.invokevirtual 193, 3) := by decide +kernel
theorem d_M_readValue_45 : decode prog_13_method_31_code 45 = .ok (.pop, 1) := by decide +kernel
theorem d_M_readValue_46 : decode prog_13_method_31_code 46 = .ok (.aload_n 0, 1) := by decide +kernel
theorem d_M_readValue_47 : decode prog_13_method_31_code 47 = .ok (.invokevirtual 200, 3) := by decide +kernel
theorem d_M_readValue_50 : decode prog_13_method_31_code 50 = .ok (.goto 71, 3) := by decide +kernel
theorem d_M_readValue_53 : decode prog_13_method_31_code 53 = .ok (.iload_n 3, 1) := by decide +kernel
theorem d_M_readValue_54 : decode prog_13_method_31_code 54 = .ok (.ifCond .ne 55, 3) := by decide +kernel
theorem d_M_readValue_57 : decode prog_13_method_31_code 57 = .ok (.aload_n 0, 1) := by decide +kernel
theorem d_M_readValue_58 : decode prog_13_method_31_code 58 = .ok (.ldc2_w 203, 3) := by decide +kernel
theorem d_M_readValue_61 : decode prog_13_method_31_code 61 = .ok (.invokevirtual 120, 3) := by decide +kernel
theorem d_M_readValue_64 : decode prog_13_method_31_code 64 = .ok (.istore 4, 2) := by decide +kernel
theorem d_M_readValue_66 : decode prog_13_method_31_code 66 = .ok (.iload 4, 2) := by decide +kernel
theorem d_M_readValue_68 : decode prog_13_method_31_code 68 = .ok (.ifCond .ne 21, 3) := by decide +kernel
theorem d_M_readValue_71 : decode prog_13_method_31_code 71 = .ok (.aload_n 0, 1) := by decide +kernel
theorem d_M_readValue_72 : decode prog_13_method_31_code 72 = .ok (.ldc2_w 205, 3) := by decide +kernel
theorem d_M_readValue_75 : decode prog_13_method_31_code 75 = .ok (.invokevirtual 120, 3) := by decide +kernel
theorem d_M_readValue_78 : decode prog_13_method_31_code 78 = .ok (.ifCond .ne 11, 3) := by decide +kernel
theorem d_M_readValue_81 : decode prog_13_method_31_code 81 = .ok (.aload_n 0, 1) := by decide +kernel
theorem d_M_readValue_82 : decode prog_13_method_31_code 82 = .ok (.aload_n 0, 1) := by decide +kernel
theorem d_M_readValue_83 : decode prog_13_method_31_code 83 = .ok (.getfield 84, 3) := by decide +kernel
theorem d_M_readValue_86 : decode prog_13_method_31_code 86 = .ok (.invokevirtual 114, 3) := by decide +kernel
theorem d_M_readValue_89 : decode prog_13_method_31_code 89 = .ok (.aload_n 0, 1) := by decide +kernel
theorem d_M_readValue_90 : decode prog_13_method_31_code 90 = .ok (.iload_n 1, 1) := by decide +kernel
theorem d_M_readValue_91 : decode prog_13_method_31_code 91 = .ok (.iload_n 2, 1) := by decide +kernel
theorem d_M_readValue_92 : decode prog_13_method_31_code 92 = .ok (.iload 4, 2) := by decide +kernel
theorem d_M_readValue_94 : decode prog_13_method_31_code 94 = .ok (.ifCond .eq 7, 3) := by decide +kernel
theorem d_M_readValue_97 : decode prog_13_method_31_code 97 = .ok (.lconst 1, 1) := by decide +kernel
theorem d_M_readValue_98 : decode prog_13_method_31_code 98 = .ok (.goto 4, 3) := by decide +kernel
theorem d_M_readValue_101 : decode prog_13_method_31_code 101 = .ok (.lconst 0, 1) := by decide +kernel
theorem d_M_readValue_102 : decode prog_13_method_31_code 102 = .ok (.invokevirtual 193, 3) := by decide +kernel
theorem d_M_readValue_105 : decode prog_13_method_31_code 105 = .ok (.pop, 1) := by decide +kernel
theorem d_M_readValue_106 : decode prog_13_method_31_code 106 = .ok (.goto 15, 3) := by decide +kernel
theorem d_M_readValue_109 : decode prog_13_method_31_code 109 = .ok (.aload_n 0, 1) := by decide +kernel
theorem d_M_readValue_110 : decode prog_13_method_31_code 110 = .ok (.iload_n 1, 1) := by decide +kernel
theorem d_M_readValue_111 : decode prog_13_method_31_code 111 = .ok (.iload_n 2, 1) := by decide +kernel
theorem d_M_readValue_112 : decode prog_13_method_31_code 112 = .ok (.aload_n 0, 1) := by decide +kernel
theorem d_M_readValue_113 : decode prog_13_method_31_code 113 = .ok (.iload_n 3, 1) := by decide +kernel
theorem d_M_readValue_114 : decode prog_13_method_31_code 114 = .ok (.invokevirtual 207, 3) := by decide +kernel
theorem d_M_readValue_117 : decode prog_13_method_31_code 117 = .ok (.invokevirtual 193, 3) := by decide +kernel
theorem d_M_readValue_120 : decode prog_13_method_31_code 120 = .ok (.pop, 1) := by decide +kernel
theorem d_M_readValue_121 : decode prog_13_method_31_code 121 = .ok (.return_, 1) := by decide +kernel
theorem d_M_node_0 : decode prog_13_method_26_code 0 = .ok (.aload_n 0, 1) := by decide +kernel
theorem d_M_node_1 : decode prog_13_method_26_code 1 = .ok (.getfield 30, 3) := by decide +kernel
theorem d_M_node_4 : decode prog_13_method_26_code 4 = .ok (.aload_n 0, 1) := by decide +kernel
theorem d_M_node_5 : decode prog_13_method_26_code 5 = .ok (.getfield 46, 3) := by decide +kernel
theorem d_M_node_8 : decode prog_13_method_26_code 8 = .ok (.iload_n 2, 1) := by decide +kernel
theorem d_M_node_9 : decode prog_13_method_26_code 9 = .ok (.iastore, 1) := by decide +kernel
theorem d_M_node_10 : decode prog_13_method_26_code 10 = .ok (.aload_n 0, 1) := by decide +kernel
theorem d_M_node_11 : decode prog_13_method_26_code 11 = .ok (.getfield 33, 3) := by decide +kernel
theorem d_M_node_14 : decode prog_13_method_26_code 14 = .ok (.aload_n 0, 1) := by decide +kernel
theorem d_M_node_15 : decode prog_13_method_26_code 15 = .ok (.getfield 46, 3) := by decide +kernel
theorem d_M_node_18 : decode prog_13_method_26_code 18 = .ok (.iload_n 1, 1) := by decide +kernel
theorem d_M_node_19 : decode prog_13_method_26_code 19 = .ok (.iastore, 1) := by decide +kernel
theorem d_M_node_20 : decode prog_13_method_26_code 20 = .ok (.aload_n 0, 1) := by decide +kernel
theorem d_M_node_21 : decode prog_13_method_26_code 21 = .ok (.getfield 36, 3) := by decide +kernel
theorem d_M_node_24 : decode prog_13_method_26_code 24 = .ok (.aload_n 0, 1) := by decide +kernel
theorem d_M_node_25 : decode prog_13_method_26_code 25 = .ok (.getfield 46, 3) := by decide +kernel
theorem d_M_node_28 : decode prog_13_method_26_code 28 = .ok (.aload_n 0, 1) := by decide +kernel
theorem d_M_node_29 : decode prog_13_method_26_code 29 = .ok (.getfield 173, 3) := by decide +kernel
theorem d_M_node_32 : decode prog_13_method_26_code 32 = .ok (.iastore, 1) := by decide +kernel
theorem d_M_node_33 : decode prog_13_method_26_code 33 = .ok (.aload_n 0, 1) := by decide +kernel
theorem d_M_node_34 : decode prog_13_method_26_code 34 = .ok (.getfield 39, 3) := by decide +kernel
theorem d_M_node_37 : decode prog_13_method_26_code 37 = .ok (.aload_n 0, 1) := by decide +kernel
theorem d_M_node_38 : decode prog_13_method_26_code 38 = .ok (.getfield 46, 3) := by decide +kernel
theorem d_M_node_41 : decode prog_13_method_26_code 41 = .ok (.iconst 0, 1) := by decide +kernel
theorem d_M_node_42 : decode prog_13_method_26_code 42 = .ok (.iastore, 1) := by decide +kernel
theorem d_M_node_43 : decode prog_13_method_26_code 43 = .ok (.aload_n 0, 1) := by decide +kernel
theorem d_M_node_44 : decode prog_13_method_26_code 44 = .ok (.getfield 42, 3) := by decide +kernel
theorem d_M_node_47 : decode prog_13_method_26_code 47 = .ok (.aload_n 0, 1) := by decide +kernel
theorem d_M_node_48 : decode prog_13_method_26_code 48 = .ok (.getfield 46, 3) := by decide +kernel
theorem d_M_node_51 : decode prog_13_method_26_code 51 = .ok (.lload_n 3, 1) := by decide +kernel
theorem d_M_node_52 : decode prog_13_method_26_code 52 = .ok (.lastore, 1) := by decide +kernel
theorem d_M_node_53 : decode prog_13_method_26_code 53 = .ok (.aload_n 0, 1) := by decide +kernel
theorem d_M_node_54 : decode prog_13_method_26_code 54 = .ok (.dup, 1) := by decide +kernel
theorem d_M_node_55 : decode prog_13_method_26_code 55 = .ok (.getfield 46, 3) := by decide +kernel
theorem d_M_node_58 : decode prog_13_method_26_code 58 = .ok (.iconst 1, 1) := by decide +kernel
theorem d_M_node_59 : decode prog_13_method_26_code 59 = .ok (.iadd, 1) := by decide +kernel
theorem d_M_node_60 : decode prog_13_method_26_code 60 = .ok (.putfield 46, 3) := by decide +kernel
theorem d_M_node_63 : decode prog_13_method_26_code 63 = .ok (.aload_n 0, 1) := by decide +kernel
theorem d_M_node_64 : decode prog_13_method_26_code 64 = .ok (.getfield 46, 3) := by decide +kernel
theorem d_M_node_67 : decode prog_13_method_26_code 67 = .ok (.iconst 1, 1) := by decide +kernel
theorem d_M_node_68 : decode prog_13_method_26_code 68 = .ok (.isub, 1) := by decide +kernel
theorem d_M_node_69 : decode prog_13_method_26_code 69 = .ok (.ireturn, 1) := by decide +kernel
theorem d_M_readText_0 : decode prog_13_method_28_code 0 = .ok (.aload_n 0, 1) := by decide +kernel
theorem d_M_readText_1 : decode prog_13_method_28_code 1 = .ok (.invokevirtual 90, 3) := by decide +kernel
theorem d_M_readText_4 : decode prog_13_method_28_code 4 = .ok (.bipush 39, 2) := by decide +kernel
theorem d_M_readText_6 : decode prog_13_method_28_code 6 = .ok (.if_icmp .eq 12, 3) := by decide +kernel
theorem d_M_readText_9 : decode prog_13_method_28_code 9 = .ok (.aload_n 0, 1) := by decide +kernel
theorem d_M_readText_10 : decode prog_13_method_28_code 10 = .ok (.aload_n 0, 1) := by decide +kernel
theorem d_M_readText_11 : decode prog_13_method_28_code 11 = .ok (.getfield 84, 3) := by decide +kernel
theorem d_M_readText_14 : decode prog_13_method_28_code 14 = .ok (.invokevirtual 114, 3) := by decide +kernel
theorem d_M_readText_17 : decode prog_13_method_28_code 17 = .ok (.return_, 1) := by decide +kernel
theorem d_M_readText_18 : decode prog_13_method_28_code 18 = .ok (.aload_n 0, 1) := by decide +kernel
theorem d_M_readText_19 : decode prog_13_method_28_code 19 = .ok (.dup, 1) := by decide +kernel
theorem d_M_readText_20 : decode prog_13_method_28_code 20 = .ok (.getfield 84, 3) := by decide +kernel
theorem d_M_readText_23 : decode prog_13_method_28_code 23 = .ok (.iconst 1, 1) := by decide +kernel
theorem d_M_readText_24 : decode prog_13_method_28_code 24 = .ok (.iadd, 1) := by decide +kernel
theorem d_M_readText_25 : decode prog_13_method_28_code 25 = .ok (.putfield 84, 3) := by decide +kernel
theorem d_M_readText_28 : decode prog_13_method_28_code 28 = .ok (.iconst 0, 1) := by decide +kernel
theorem d_M_readText_29 : decode prog_13_method_28_code 29 = .ok (.istore_n 1, 1) := by decide +kernel
theorem d_M_readText_30 : decode prog_13_method_28_code 30 = .ok (.aload_n 0, 1) := by decide +kernel
theorem d_M_readText_31 : decode prog_13_method_28_code 31 = .ok (.getfield 87, 3) := by decide +kernel
theorem d_M_readText_34 : decode prog_13_method_28_code 34 = .ok (.iconst (-1), 1) := by decide +kernel
theorem d_M_readText_35 : decode prog_13_method_28_code 35 = .ok (.if_icmp .ne 101, 3) := by decide +kernel
theorem d_M_readText_38 : decode prog_13_method_28_code 38 = .ok (.aload_n 0, 1) := by decide +kernel
theorem d_M_readText_39 : decode prog_13_method_28_code 39 = .ok (.invokevirtual 90, 3) := by decide +kernel
theorem d_M_readText_42 : decode prog_13_method_28_code 42 = .ok (.bipush 39, 2) := by decide +kernel
theorem d_M_readText_44 : decode prog_13_method_28_code 44 = .ok (.if_icmp .eq 92, 3) := by decide +kernel
theorem d_M_readText_47 : decode prog_13_method_28_code 47 = .ok (.aload_n 0, 1) := by decide +kernel
theorem d_M_readText_48 : decode prog_13_method_28_code 48 = .ok (.getfield 84, 3) := by decide +kernel
theorem d_M_readText_51 : decode prog_13_method_28_code 51 = .ok (.istore_n 2, 1) := by decide +kernel
theorem d_M_readText_52 : decode prog_13_method_28_code 52 = .ok (.aload_n 0, 1) := by decide +kernel
theorem d_M_readText_53 : decode prog_13_method_28_code 53 = .ok (.invokevirtual 90, 3) := by decide +kernel
theorem d_M_readText_56 : decode prog_13_method_28_code 56 = .ok (.istore_n 3, 1) := by decide +kernel
theorem d_M_readText_57 : decode prog_13_method_28_code 57 = .ok (.iload_n 3, 1) := by decide +kernel
theorem d_M_readText_58 : decode prog_13_method_28_code 58 = .ok (.bipush 32, 2) := by decide +kernel
theorem d_M_readText_60 : decode prog_13_method_28_code 60 = .ok (.if_icmp .lt 16, 3) := by decide +kernel
theorem d_M_readText_63 : decode prog_13_method_28_code 63 = .ok (.iload_n 3, 1) := by decide +kernel
theorem d_M_readText_64 : decode prog_13_method_28_code 64 = .ok (.bipush 126, 2) := by decide +kernel
theorem d_M_readText_66 : decode prog_13_method_28_code 66 = .ok (.if_icmp .gt 10, 3) := by decide +kernel
theorem d_M_readText_69 : decode prog_13_method_28_code 69 = .ok (.iload_n 1, 1) := by decide +kernel
theorem d_M_readText_70 : decode prog_13_method_28_code 70 = .ok (.sipush 255, 3) := by decide +kernel
theorem d_M_readText_73 : decode prog_13_method_28_code 73 = .ok (.if_icmp .ne 21, 3) := by decide +kernel
theorem d_M_readText_76 : decode prog_13_method_28_code 76 = .ok (.aload_n 0, 1) := by decide +kernel
theorem d_M_readText_77 : decode prog_13_method_28_code 77 = .ok (.iload_n 3, 1) := by decide +kernel
theorem d_M_readText_78 : decode prog_13_method_28_code 78 = .ok (.iconst (-1), 1) := by decide +kernel
theorem d_M_readText_79 : decode prog_13_method_28_code 79 = .ok (.if_icmp .ne 10, 3) := by decide +kernel
theorem d_M_readText_82 : decode prog_13_method_28_code 82 = .ok (.aload_n 0, 1) := by decide +kernel
theorem d_M_readText_83 : decode prog_13_method_28_code 83 = .ok (.getfield 81, 3) := by decide +kernel
theorem d_M_readText_86 : decode prog_13_method_28_code 86 = .ok (.goto 4, 3) := by decide +kernel
theorem d_M_readText_89 : decode prog_13_method_28_code 89 = .ok (.iload_n 2, 1) := by decide +kernel
theorem d_M_readText_90 : decode prog_13_method_28_code 90 = .ok (.invokevirtual 114, 3) := by decide +kernel
theorem d_M_readText_93 : decode prog_13_method_28_code 93 = .ok (.return_, 1) := by decide +kernel
theorem d_M_readText_94 : decode prog_13_method_28_code 94 = .ok (.aload_n 0, 1) := by decide +kernel
theorem d_M_readText_95 : decode prog_13_method_28_code 95 = .ok (.dup, 1) := by decide +kernel
theorem d_M_readText_96 : decode prog_13_method_28_code 96 = .ok (.getfield 84, 3) := by decide +kernel
theorem d_M_readText_99 : decode prog_13_method_28_code 99 = .ok (.iconst 1, 1) := by decide +kernel
theorem d_M_readText_100 : decode prog_13_method_28_code 100 = .ok (.iadd, 1) := by decide +kernel
theorem d_M_readText_101 : decode prog_13_method_28_code 101 = .ok (.putfield 84, 3) := by decide +kernel
theorem d_M_readText_104 : decode prog_13_method_28_code 104 = .ok (.iload_n 3, 1) := by decide +kernel
theorem d_M_readText_105 : decode prog_13_method_28_code 105 = .ok (.bipush 92, 2) := by decide +kernel
theorem d_M_readText_107 : decode prog_13_method_28_code 107 = .ok (.if_icmp .ne 9, 3) := by decide +kernel
theorem d_M_readText_110 : decode prog_13_method_28_code 110 = .ok (.aload_n 0, 1) := by decide +kernel
theorem d_M_readText_111 : decode prog_13_method_28_code 111 = .ok (.iload_n 2, 1) := by decide +kernel
theorem d_M_readText_112 : decode prog_13_method_28_code 112 = .ok (.invokevirtual 176, 3) := by decide +kernel
theorem d_M_readText_115 : decode prog_13_method_28_code 115 = .ok (.istore_n 3, 1) := by decide +kernel
theorem d_M_readText_116 : decode prog_13_method_28_code 116 = .ok (.aload_n 0, 1) := by decide +kernel
theorem d_M_readText_117 : decode prog_13_method_28_code 117 = .ok (.getfield 87, 3) := by decide +kernel
theorem d_M_readText_120 : decode prog_13_method_28_code 120 = .ok (.iconst (-1), 1) := by decide +kernel
theorem d_M_readText_121 : decode prog_13_method_28_code 121 = .ok (.if_icmp .eq 4, 3) := by decide +kernel
theorem d_M_readText_124 : decode prog_13_method_28_code 124 = .ok (.return_, 1) := by decide +kernel
theorem d_M_readText_125 : decode prog_13_method_28_code 125 = .ok (.aload_n 0, 1) := by decide +kernel
theorem d_M_readText_126 : decode prog_13_method_28_code 126 = .ok (.iload_n 3, 1) := by decide +kernel
theorem d_M_readText_127 : decode prog_13_method_28_code 127 = .ok (.invokevirtual 180, 3) := by decide +kernel
theorem d_M_readText_130 : decode prog_13_method_28_code 130 = .ok (.iinc 1 1, 3) := by decide +kernel
theorem d_M_readText_133 : decode prog_13_method_28_code 133 = .ok (.goto (-103), 3) := by decide +kernel
theorem d_M_readText_136 : decode prog_13_method_28_code 136 = .ok (.aload_n 0, 1) := by decide +kernel
theorem d_M_readText_137 : decode prog_13_method_28_code 137 = .ok (.dup, 1) := by decide +kernel
theorem d_M_readText_138 : decode prog_13_method_28_code 138 = .ok (.getfield 84, 3) := by decide +kernel
theorem d_M_readText_141 : decode prog_13_method_28_code 141 = .ok (.iconst 1, 1) := by decide +kernel
theorem d_M_readText_142 : decode prog_13_method_28_code 142 = .ok (.iadd, 1) := by decide +kernel
theorem d_M_readText_143 : decode prog_13_method_28_code 143 = .ok (.putfield 84, 3) := by decide +kernel
theorem d_M_readText_146 : decode prog_13_method_28_code 146 = .ok (.return_, 1) := by decide +kernel
theorem d_M_behind_0 : decode prog_13_method_29_code 0 = .ok (.aload_n 0, 1) := by decide +kernel
theorem d_M_behind_1 : decode prog_13_method_29_code 1 = .ok (.invokevirtual 90, 3) := by decide +kernel
theorem d_M_behind_4 : decode prog_13_method_29_code 4 = .ok (.istore_n 2, 1) := by decide +kernel
theorem d_M_behind_5 : decode prog_13_method_29_code 5 = .ok (.iload_n 2, 1) := by decide +kernel
theorem d_M_behind_6 : decode prog_13_method_29_code 6 = .ok (.iconst (-1), 1) := by decide +kernel
theorem d_M_behind_7 : decode prog_13_method_29_code 7 = .ok (.if_icmp .ne 13, 3) := by decide +kernel
theorem d_M_behind_10 : decode prog_13_method_29_code 10 = .ok (.aload_n 0, 1) := by decide +kernel
theorem d_M_behind_11 : decode prog_13_method_29_code 11 = .ok (.aload_n 0, 1) := by decide +kernel
theorem d_M_behind_12 : decode prog_13_method_29_code 12 = .ok (.getfield 81, 3) := by decide +kernel
theorem d_M_behind_15 : decode prog_13_method_29_code 15 = .ok (.invokevirtual 114, 3) := by decide +kernel
theorem d_M_behind_18 : decode prog_13_method_29_code 18 = .ok (.iconst 0, 1) := by decide +kernel
theorem d_M_behind_19 : decode prog_13_method_29_code 19 = .ok (.ireturn, 1) := by decide +kernel
theorem d_M_behind_20 : decode prog_13_method_29_code 20 = .ok (.aload_n 0, 1) := by decide +kernel
theorem d_M_behind_21 : decode prog_13_method_29_code 21 = .ok (.dup, 1) := by decide +kernel
theorem d_M_behind_22 : decode prog_13_method_29_code 22 = .ok (.getfield 84, 3) := by decide +kernel
theorem d_M_behind_25 : decode prog_13_method_29_code 25 = .ok (.iconst 1, 1) := by decide +kernel
theorem d_M_behind_26 : decode prog_13_method_29_code 26 = .ok (.iadd, 1) := by decide +kernel
theorem d_M_behind_27 : decode prog_13_method_29_code 27 = .ok (.putfield 84, 3) := by decide +kernel
theorem d_M_behind_30 : decode prog_13_method_29_code 30 = .ok (.iload_n 2, 1) := by decide +kernel
theorem d_M_behind_31 : decode prog_13_method_29_code 31 = .ok (.bipush 39, 2) := by decide +kernel
theorem d_M_behind_33 : decode prog_13_method_29_code 33 = .ok (.if_icmp .eq 9, 3) := by decide +kernel
theorem d_M_behind_36 : decode prog_13_method_29_code 36 = .ok (.iload_n 2, 1) := by decide +kernel
theorem d_M_behind_37 : decode prog_13_method_29_code 37 = .ok (.bipush 92, 2) := by decide +kernel
theorem d_M_behind_39 : decode prog_13_method_29_code 39 = .ok (.if_icmp .ne 5, 3) := by decide +kernel
theorem d_M_behind_42 : decode prog_13_method_29_code 42 = .ok (.iload_n 2, 1) := by decide +kernel
theorem d_M_behind_43 : decode prog_13_method_29_code 43 = .ok (.ireturn, 1) := by decide +kernel
theorem d_M_behind_44 : decode prog_13_method_29_code 44 = .ok (.iload_n 2, 1) := by decide +kernel
theorem d_M_behind_45 : decode prog_13_method_29_code 45 = .ok (.bipush 120, 2) := by decide +kernel
theorem d_M_behind_47 : decode prog_13_method_29_code 47 = .ok (.if_icmp .eq 10, 3) := by decide +kernel
theorem d_M_behind_50 : decode prog_13_method_29_code 50 = .ok (.aload_n 0, 1) := by decide +kernel
theorem d_M_behind_51 : decode prog_13_method_29_code 51 = .ok (.iload_n 1, 1) := by decide +kernel
theorem d_M_behind_52 : decode prog_13_method_29_code 52 = .ok (.invokevirtual 114, 3) := by decide +kernel
theorem d_M_behind_55 : decode prog_13_method_29_code 55 = .ok (.iconst 0, 1) := by decide +kernel
theorem d_M_behind_56 : decode prog_13_method_29_code 56 = .ok (.ireturn, 1) := by decide +kernel
theorem d_M_behind_57 : decode prog_13_method_29_code 57 = .ok (.iconst 0, 1) := by decide +kernel
theorem d_M_behind_58 : decode prog_13_method_29_code 58 = .ok (.istore_n 3, 1) := by decide +kernel
theorem d_M_behind_59 : decode prog_13_method_29_code 59 = .ok (.iconst 0, 1) := by decide +kernel
theorem d_M_behind_60 : decode prog_13_method_29_code 60 = .ok (.istore 4, 2) := by decide +kernel
theorem d_M_behind_62 : decode prog_13_method_29_code 62 = .ok (.iload 4, 2) := by decide +kernel
theorem d_M_behind_64 : decode prog_13_method_29_code 64 = .ok (.iconst 2, 1) := by decide +kernel
theorem d_M_behind_65 : decode prog_13_method_29_code 65 = .ok (.if_icmp .ge 103, 3) := by decide +kernel
theorem d_M_behind_68 : decode prog_13_method_29_code 68 = .ok (.aload_n 0, 1) := by decide +kernel
theorem d_M_behind_69 : decode prog_13_method_29_code 69 = .ok (.invokevirtual 90, 3) := by decide +kernel
theorem d_M_behind_72 : decode prog_13_method_29_code 72 = .ok (.istore 5, 2) := by decide +kernel
theorem d_M_behind_74 : decode prog_13_method_29_code 74 = .ok (.iload 5, 2) := by decide +kernel
theorem d_M_behind_76 : decode prog_13_method_29_code 76 = .ok (.invokestatic 98, 3) := by decide +kernel
theorem d_M_behind_79 : decode prog_13_method_29_code 79 = .ok (.ifCond .eq 11, 3) := by decide +kernel
theorem d_M_behind_82 : decode prog_13_method_29_code 82 = .ok (.iload 5, 2) := by decide +kernel
theorem d_M_behind_84 : decode prog_13_method_29_code 84 = .ok (.bipush 48, 2) := by decide +kernel
theorem d_M_behind_86 : decode prog_13_method_29_code 86 = .ok (.isub, 1) := by decide +kernel
theorem d_M_behind_87 : decode prog_13_method_29_code 87 = .ok (.goto 29, 3) := by decide +kernel
theorem d_M_behind_90 : decode prog_13_method_29_code 90 = .ok (.iload 5, 2) := by decide +kernel
theorem d_M_behind_92 : decode prog_13_method_29_code 92 = .ok (.bipush 97, 2) := by decide +kernel
theorem d_M_behind_94 : decode prog_13_method_29_code 94 = .ok (.if_icmp .lt 21, 3) := by decide +kernel
theorem d_M_behind_97 : decode prog_13_method_29_code 97 = .ok (.iload 5, 2) := by decide +kernel
theorem d_M_behind_99 : decode prog_13_method_29_code 99 = .ok (.bipush 102, 2) := by decide +kernel
theorem d_M_behind_101 : decode prog_13_method_29_code 101 = .ok (.if_icmp .gt 14, 3) := by decide +kernel
theorem d_M_behind_104 : decode prog_13_method_29_code 104 = .ok (.iload 5, 2) := by decide +kernel
theorem d_M_behind_106 : decode prog_13_method_29_code 106 = .ok (.bipush 97, 2) := by decide +kernel
theorem d_M_behind_108 : decode prog_13_method_29_code 108 = .ok (.isub, 1) := by decide +kernel
theorem d_M_behind_109 : decode prog_13_method_29_code 109 = .ok (.bipush 10, 2) := by decide +kernel
theorem d_M_behind_111 : decode prog_13_method_29_code 111 = .ok (.iadd, 1) := by decide +kernel
theorem d_M_behind_112 : decode prog_13_method_29_code 112 = .ok (.goto 4, 3) := by decide +kernel
theorem d_M_behind_115 : decode prog_13_method_29_code 115 = .ok (.iconst (-1), 1) := by decide +kernel
theorem d_M_behind_116 : decode prog_13_method_29_code 116 = .ok (.istore 6, 2) := by decide +kernel
theorem d_M_behind_118 : decode prog_13_method_29_code 118 = .ok (.iload 6, 2) := by decide +kernel
theorem d_M_behind_120 : decode prog_13_method_29_code 120 = .ok (.iconst (-1), 1) := by decide +kernel
theorem d_M_behind_121 : decode prog_13_method_29_code 121 = .ok (.if_icmp .ne 23, 3) := by decide +kernel
theorem d_M_behind_124 : decode prog_13_method_29_code 124 = .ok (.aload_n 0, 1) := by decide +kernel
theorem d_M_behind_125 : decode prog_13_method_29_code 125 = .ok (.iload 5, 2) := by decide +kernel
theorem d_M_behind_127 : decode prog_13_method_29_code 127 = .ok (.iconst (-1), 1) := by decide +kernel
theorem d_M_behind_128 : decode prog_13_method_29_code 128 = .ok (.if_icmp .ne 10, 3) := by decide +kernel
theorem d_M_behind_131 : decode prog_13_method_29_code 131 = .ok (.aload_n 0, 1) := by decide +kernel
theorem d_M_behind_132 : decode prog_13_method_29_code 132 = .ok (.getfield 81, 3) := by decide +kernel
theorem d_M_behind_135 : decode prog_13_method_29_code 135 = .ok (.goto 4, 3) := by decide +kernel
theorem d_M_behind_138 : decode prog_13_method_29_code 138 = .ok (.iload_n 1, 1) := by decide +kernel
theorem d_M_behind_139 : decode prog_13_method_29_code 139 = .ok (.invokevirtual 114, 3) := by decide +kernel
theorem d_M_behind_142 : decode prog_13_method_29_code 142 = .ok (.iconst 0, 1) := by decide +kernel
theorem d_M_behind_143 : decode prog_13_method_29_code 143 = .ok (.ireturn, 1) := by decide +kernel
theorem d_M_behind_144 : decode prog_13_method_29_code 144 = .ok (.bipush 16, 2) := by decide +kernel
theorem d_M_behind_146 : decode prog_13_method_29_code 146 = .ok (.iload_n 3, 1) := by decide +kernel
theorem d_M_behind_147 : decode prog_13_method_29_code 147 = .ok (.imul, 1) := by decide +kernel
theorem d_M_behind_148 : decode prog_13_method_29_code 148 = .ok (.iload 6, 2) := by decide +kernel
theorem d_M_behind_150 : decode prog_13_method_29_code 150 = .ok (.iadd, 1) := by decide +kernel
theorem d_M_behind_151 : decode prog_13_method_29_code 151 = .ok (.istore_n 3, 1) := by decide +kernel
theorem d_M_behind_152 : decode prog_13_method_29_code 152 = .ok (.aload_n 0, 1) := by decide +kernel
theorem d_M_behind_153 : decode prog_13_method_29_code 153 = .ok (.dup, 1) := by decide +kernel
theorem d_M_behind_154 : decode prog_13_method_29_code 154 = .ok (.getfield 84, 3) := by decide +kernel
theorem d_M_behind_157 : decode prog_13_method_29_code 157 = .ok (.iconst 1, 1) := by decide +kernel
theorem d_M_behind_158 : decode prog_13_method_29_code 158 = .ok (.iadd, 1) := by decide +kernel
theorem d_M_behind_159 : decode prog_13_method_29_code 159 = .ok (.putfield 84, 3) := by decide +kernel
theorem d_M_behind_162 : decode prog_13_method_29_code 162 = .ok (.iinc 4 1, 3) := by decide +kernel
theorem d_M_behind_165 : decode prog_13_method_29_code 165 = .ok (.goto (-103), 3) := by decide +kernel
theorem d_M_behind_168 : decode prog_13_method_29_code 168 = .ok (.iload_n 3, 1) := by decide +kernel
theorem d_M_behind_169 : decode prog_13_method_29_code 169 = .ok (.ireturn, 1) := by decide +kernel
theorem d_M_say_0 : decode prog_13_method_27_code 0 = .ok (.aload_n 0, 1) := by decide +kernel
theorem d_M_say_1 : decode prog_13_method_27_code 1 = .ok (.getfield 50, 3) := by decide +kernel
theorem d_M_say_4 : decode prog_13_method_27_code 4 = .ok (.aload_n 0, 1) := by decide +kernel
theorem d_M_say_5 : decode prog_13_method_27_code 5 = .ok (.getfield 173, 3) := by decide +kernel
theorem d_M_say_8 : decode prog_13_method_27_code 8 = .ok (.iload_n 1, 1) := by decide +kernel
theorem d_M_say_9 : decode prog_13_method_27_code 9 = .ok (.iastore, 1) := by decide +kernel
theorem d_M_say_10 : decode prog_13_method_27_code 10 = .ok (.aload_n 0, 1) := by decide +kernel
theorem d_M_say_11 : decode prog_13_method_27_code 11 = .ok (.dup, 1) := by decide +kernel
theorem d_M_say_12 : decode prog_13_method_27_code 12 = .ok (.getfield 173, 3) := by decide +kernel
theorem d_M_say_15 : decode prog_13_method_27_code 15 = .ok (.iconst 1, 1) := by decide +kernel
theorem d_M_say_16 : decode prog_13_method_27_code 16 = .ok (.iadd, 1) := by decide +kernel
theorem d_M_say_17 : decode prog_13_method_27_code 17 = .ok (.putfield 173, 3) := by decide +kernel
theorem d_M_say_20 : decode prog_13_method_27_code 20 = .ok (.aload_n 0, 1) := by decide +kernel
theorem d_M_say_21 : decode prog_13_method_27_code 21 = .ok (.getfield 39, 3) := by decide +kernel
theorem d_M_say_24 : decode prog_13_method_27_code 24 = .ok (.aload_n 0, 1) := by decide +kernel
theorem d_M_say_25 : decode prog_13_method_27_code 25 = .ok (.getfield 46, 3) := by decide +kernel
theorem d_M_say_28 : decode prog_13_method_27_code 28 = .ok (.iconst 1, 1) := by decide +kernel
theorem d_M_say_29 : decode prog_13_method_27_code 29 = .ok (.isub, 1) := by decide +kernel
theorem d_M_say_30 : decode prog_13_method_27_code 30 = .ok (.dup2, 1) := by decide +kernel
theorem d_M_say_31 : decode prog_13_method_27_code 31 = .ok (.iaload, 1) := by decide +kernel
theorem d_M_say_32 : decode prog_13_method_27_code 32 = .ok (.iconst 1, 1) := by decide +kernel
theorem d_M_say_33 : decode prog_13_method_27_code 33 = .ok (.iadd, 1) := by decide +kernel
theorem d_M_say_34 : decode prog_13_method_27_code 34 = .ok (.iastore, 1) := by decide +kernel
theorem d_M_say_35 : decode prog_13_method_27_code 35 = .ok (.return_, 1) := by decide +kernel
theorem d_M_readNumber_0 : decode prog_13_method_30_code 0 = .ok (.aload_n 0, 1) := by decide +kernel
theorem d_M_readNumber_1 : decode prog_13_method_30_code 1 = .ok (.getfield 84, 3) := by decide +kernel
theorem d_M_readNumber_4 : decode prog_13_method_30_code 4 = .ok (.istore_n 2, 1) := by decide +kernel
theorem d_M_readNumber_5 : decode prog_13_method_30_code 5 = .ok (.aload_n 0, 1) := by decide +kernel
theorem d_M_readNumber_6 : decode prog_13_method_30_code 6 = .ok (.invokevirtual 90, 3) := by decide +kernel
theorem d_M_readNumber_9 : decode prog_13_method_30_code 9 = .ok (.bipush 45, 2) := by decide +kernel
theorem d_M_readNumber_11 : decode prog_13_method_30_code 11 = .ok (.if_icmp .ne 7, 3) := by decide +kernel
theorem d_M_readNumber_14 : decode prog_13_method_30_code 14 = .ok (.iconst 1, 1) := by decide +kernel
theorem d_M_readNumber_15 : decode prog_13_method_30_code 15 = .ok (.goto 4, 3) := by decide +kernel
theorem d_M_readNumber_18 : decode prog_13_method_30_code 18 = .ok (.iconst 0, 1) := by decide +kernel
theorem d_M_readNumber_19 : decode prog_13_method_30_code 19 = .ok (.istore_n 3, 1) := by decide +kernel
theorem d_M_readNumber_20 : decode prog_13_method_30_code 20 = .ok (.iload_n 3, 1) := by decide +kernel
theorem d_M_readNumber_21 : decode prog_13_method_30_code 21 = .ok (.ifCond .eq 13, 3) := by decide +kernel
theorem d_M_readNumber_24 : decode prog_13_method_30_code 24 = .ok (.aload_n 0, 1) := by decide +kernel
theorem d_M_readNumber_25 : decode prog_13_method_30_code 25 = .ok (.dup, 1) := by decide +kernel
theorem d_M_readNumber_26 : decode prog_13_method_30_code 26 = .ok (.getfield 84, 3) := by decide +kernel
theorem d_M_readNumber_29 : decode prog_13_method_30_code 29 = .ok (.iconst 1, 1) := by decide +kernel
theorem d_M_readNumber_30 : decode prog_13_method_30_code 30 = .ok (.iadd, 1) := by decide +kernel
theorem d_M_readNumber_31 : decode prog_13_method_30_code 31 = .ok (.putfield 84, 3) := by decide +kernel
theorem d_M_readNumber_34 : decode prog_13_method_30_code 34 = .ok (.aload_n 0, 1) := by decide +kernel
theorem d_M_readNumber_35 : decode prog_13_method_30_code 35 = .ok (.invokevirtual 90, 3) := by decide +kernel
theorem d_M_readNumber_38 : decode prog_13_method_30_code 38 = .ok (.invokestatic 98, 3) := by decide +kernel
theorem d_M_readNumber_41 : decode prog_13_method_30_code 41 = .ok (.ifCond .ne 26, 3) := by decide +kernel
theorem d_M_readNumber_44 : decode prog_13_method_30_code 44 = .ok (.aload_n 0, 1) := by decide +kernel
theorem d_M_readNumber_45 : decode prog_13_method_30_code 45 = .ok (.aload_n 0, 1) := by decide +kernel
theorem d_M_readNumber_46 : decode prog_13_method_30_code 46 = .ok (.getfield 84, 3) := by decide +kernel
theorem d_M_readNumber_49 : decode prog_13_method_30_code 49 = .ok (.aload_n 0, 1) := by decide +kernel
theorem d_M_readNumber_50 : decode prog_13_method_30_code 50 = .ok (.getfield 81, 3) := by decide +kernel
theorem d_M_readNumber_53 : decode prog_13_method_30_code 53 = .ok (.if_icmp .ne 10, 3) := by decide +kernel
theorem d_M_readNumber_56 : decode prog_13_method_30_code 56 = .ok (.aload_n 0, 1) := by decide +kernel
theorem d_M_readNumber_57 : decode prog_13_method_30_code 57 = .ok (.getfield 81, 3) := by decide +kernel
theorem d_M_readNumber_60 : decode prog_13_method_30_code 60 = .ok (.goto 4, 3) := by decide +kernel
theorem d_M_readNumber_63 : decode prog_13_method_30_code 63 = .ok (.iload_n 2, 1) := by decide +kernel
theorem d_M_readNumber_64 : decode prog_13_method_30_code 64 = .ok (.invokevirtual 114, 3) := by decide +kernel
theorem d_M_readNumber_67 : decode prog_13_method_30_code 67 = .ok (.aload_n 0, 1) := by decide +kernel
theorem d_M_readNumber_68 : decode prog_13_method_30_code 68 = .ok (.getfield 84, 3) := by decide +kernel
theorem d_M_readNumber_71 : decode prog_13_method_30_code 71 = .ok (.istore 4, 2) := by decide +kernel
theorem d_M_readNumber_73 : decode prog_13_method_30_code 73 = .ok (.lconst 0, 1) := by decide +kernel
theorem d_M_readNumber_74 : decode prog_13_method_30_code 74 = .ok (.lstore 5, 2) := by decide +kernel
theorem d_M_readNumber_76 : decode prog_13_method_30_code 76 = .ok (.iconst 0, 1) := by decide +kernel
theorem d_M_readNumber_77 : decode prog_13_method_30_code 77 = .ok (.istore 7, 2) := by decide +kernel
theorem d_M_readNumber_79 : decode prog_13_method_30_code 79 = .ok (.aload_n 0, 1) := by decide +kernel
theorem d_M_readNumber_80 : decode prog_13_method_30_code 80 = .ok (.invokevirtual 90, 3) := by decide +kernel
theorem d_M_readNumber_83 : decode prog_13_method_30_code 83 = .ok (.invokestatic 98, 3) := by decide +kernel
theorem d_M_readNumber_86 : decode prog_13_method_30_code 86 = .ok (.ifCond .eq 66, 3) := by decide +kernel
theorem d_M_readNumber_89 : decode prog_13_method_30_code 89 = .ok (.aload_n 0, 1) := by decide +kernel
theorem d_M_readNumber_90 : decode prog_13_method_30_code 90 = .ok (.invokevirtual 90, 3) := by decide +kernel
theorem d_M_readNumber_93 : decode prog_13_method_30_code 93 = .ok (.bipush 48, 2) := by decide +kernel
theorem d_M_readNumber_95 : decode prog_13_method_30_code 95 = .ok (.isub, 1) := by decide +kernel
theorem d_M_readNumber_96 : decode prog_13_method_30_code 96 = .ok (.istore 8, 2) := by decide +kernel
theorem d_M_readNumber_98 : decode prog_13_method_30_code 98 = .ok (.iload 7, 2) := by decide +kernel
theorem d_M_readNumber_100 : decode prog_13_method_30_code 100 = .ok (.ifCond .ne 20, 3) := by decide +kernel
theorem d_M_readNumber_103 : decode prog_13_method_30_code 103 = .ok (.lload 5, 2) := by decide +kernel
theorem d_M_readNumber_105 : decode prog_13_method_30_code 105 = .ok (.ldc2_w 185, 3) := by decide +kernel
theorem d_M_readNumber_108 : decode prog_13_method_30_code 108 = .ok (.iload 8, 2) := by decide +kernel
theorem d_M_readNumber_110 : decode prog_13_method_30_code 110 = .ok (.i2l, 1) := by decide +kernel
theorem d_M_readNumber_111 : decode prog_13_method_30_code 111 = .ok (.ladd, 1) := by decide +kernel
theorem d_M_readNumber_112 : decode prog_13_method_30_code 112 = .ok (.ldc2_w 187, 3) := by decide +kernel
theorem d_M_readNumber_115 : decode prog_13_method_30_code 115 = .ok (.ldiv, 1) := by decide +kernel
theorem d_M_readNumber_116 : decode prog_13_method_30_code 116 = .ok (.lcmp, 1) := by decide +kernel
theorem d_M_readNumber_117 : decode prog_13_method_30_code 117 = .ok (.ifCond .ge 7, 3) := by decide +kernel
theorem d_M_readNumber_120 : decode prog_13_method_30_code 120 = .ok (.iconst 1, 1) := by decide +kernel
theorem d_M_readNumber_121 : decode prog_13_method_30_code 121 = .ok (.goto 4, 3) := by decide +kernel
theorem d_M_readNumber_124 : decode prog_13_method_30_code 124 = .ok (.iconst 0, 1) := by decide +kernel
theorem d_M_readNumber_125 : decode prog_13_method_30_code 125 = .ok (.istore 7, 2) := by decide +kernel
theorem d_M_readNumber_127 : decode prog_13_method_30_code 127 = .ok (.ldc2_w 187, 3) := by decide +kernel
theorem d_M_readNumber_130 : decode prog_13_method_30_code 130 = .ok (.lload 5, 2) := by decide +kernel
theorem d_M_readNumber_132 : decode prog_13_method_30_code 132 = .ok (.lmul, 1) := by decide +kernel
theorem d_M_readNumber_133 : decode prog_13_method_30_code 133 = .ok (.iload 8, 2) := by decide +kernel
theorem d_M_readNumber_135 : decode prog_13_method_30_code 135 = .ok (.i2l, 1) := by decide +kernel
theorem d_M_readNumber_136 : decode prog_13_method_30_code 136 = .ok (.lsub, 1) := by decide +kernel
theorem d_M_readNumber_137 : decode prog_13_method_30_code 137 = .ok (.lstore 5, 2) := by decide +kernel
theorem d_M_readNumber_139 : decode prog_13_method_30_code 139 = .ok (.aload_n 0, 1) := by decide +kernel
theorem d_M_readNumber_140 : decode prog_13_method_30_code 140 = .ok (.dup, 1) := by decide +kernel
theorem d_M_readNumber_141 : decode prog_13_method_30_code 141 = .ok (.getfield 84, 3) := by decide +kernel
theorem d_M_readNumber_144 : decode prog_13_method_30_code 144 = .ok (.iconst 1, 1) := by decide +kernel
theorem d_M_readNumber_145 : decode prog_13_method_30_code 145 = .ok (.iadd, 1) := by decide +kernel
theorem d_M_readNumber_146 : decode prog_13_method_30_code 146 = .ok (.putfield 84, 3) := by decide +kernel
theorem d_M_readNumber_149 : decode prog_13_method_30_code 149 = .ok (.goto (-70), 3) := by decide +kernel
theorem d_M_readNumber_152 : decode prog_13_method_30_code 152 = .ok (.aload_n 0, 1) := by decide +kernel
theorem d_M_readNumber_153 : decode prog_13_method_30_code 153 = .ok (.getfield 84, 3) := by decide +kernel
theorem d_M_readNumber_156 : decode prog_13_method_30_code 156 = .ok (.iload 4, 2) := by decide +kernel
theorem d_M_readNumber_158 : decode prog_13_method_30_code 158 = .ok (.if_icmp .le 19, 3) := by decide +kernel
theorem d_M_readNumber_161 : decode prog_13_method_30_code 161 = .ok (.aload_n 0, 1) := by decide +kernel
theorem d_M_readNumber_162 : decode prog_13_method_30_code 162 = .ok (.getfield 13, 3) := by decide +kernel
theorem d_M_readNumber_165 : decode prog_13_method_30_code 165 = .ok (.iload 4, 2) := by decide +kernel
theorem d_M_readNumber_167 : decode prog_13_method_30_code 167 = .ok (.iaload, 1) := by decide +kernel
theorem d_M_readNumber_168 : decode prog_13_method_30_code 168 = .ok (.bipush 48, 2) := by decide +kernel
theorem d_M_readNumber_170 : decode prog_13_method_30_code 170 = .ok (.if_icmp .ne 7, 3) := by decide +kernel
theorem d_M_readNumber_173 : decode prog_13_method_30_code 173 = .ok (.iconst 1, 1) := by decide +kernel
theorem d_M_readNumber_174 : decode prog_13_method_30_code 174 = .ok (.goto 4, 3) := by decide +kernel
theorem d_M_readNumber_177 : decode prog_13_method_30_code 177 = .ok (.iconst 0, 1) := by decide +kernel
theorem d_M_readNumber_178 : decode prog_13_method_30_code 178 = .ok (.istore 8, 2) := by decide +kernel
theorem d_M_readNumber_180 : decode prog_13_method_30_code 180 = .ok (.iload 7, 2) := by decide +kernel
theorem d_M_readNumber_182 : decode prog_13_method_30_code 182 = .ok (.ifCond .ne 40, 3) := by decide +kernel
theorem d_M_readNumber_185 : decode prog_13_method_30_code 185 = .ok (.iload 8, 2) := by decide +kernel
theorem d_M_readNumber_187 : decode prog_13_method_30_code 187 = .ok (.ifCond .eq 18, 3) := by decide +kernel
theorem d_M_readNumber_190 : decode prog_13_method_30_code 190 = .ok (.aload_n 0, 1) := by decide +kernel
theorem d_M_readNumber_191 : decode prog_13_method_30_code 191 = .ok (.getfield 84, 3) := by decide +kernel
theorem d_M_readNumber_194 : decode prog_13_method_30_code 194 = .ok (.iload 4, 2) := by decide +kernel
theorem d_M_readNumber_196 : decode prog_13_method_30_code 196 = .ok (.iconst 1, 1) := by decide +kernel
theorem d_M_readNumber_197 : decode prog_13_method_30_code 197 = .ok (.iadd, 1) := by decide +kernel
theorem d_M_readNumber_198 : decode prog_13_method_30_code 198 = .ok (.if_icmp .ne 24, 3) := by decide +kernel
theorem d_M_readNumber_201 : decode prog_13_method_30_code 201 = .ok (.iload_n 3, 1) := by decide +kernel
theorem d_M_readNumber_202 : decode prog_13_method_30_code 202 = .ok (.ifCond .ne 20, 3) := by decide +kernel
theorem d_M_readNumber_205 : decode prog_13_method_30_code 205 = .ok (.iload_n 3, 1) := by decide +kernel
theorem d_M_readNumber_206 : decode prog_13_method_30_code 206 = .ok (.ifCond .ne 12, 3) := by decide +kernel
theorem d_M_readNumber_209 : decode prog_13_method_30_code 209 = .ok (.lload 5, 2) := by decide +kernel
theorem d_M_readNumber_211 : decode prog_13_method_30_code 211 = .ok (.ldc2_w 185, 3) := by decide +kernel
theorem d_M_readNumber_214 : decode prog_13_method_30_code 214 = .ok (.lcmp, 1) := by decide +kernel
theorem d_M_readNumber_215 : decode prog_13_method_30_code 215 = .ok (.ifCond .eq 7, 3) := by decide +kernel
theorem d_M_readNumber_218 : decode prog_13_method_30_code 218 = .ok (.iconst 1, 1) := by decide +kernel
theorem d_M_readNumber_219 : decode prog_13_method_30_code 219 = .ok (.goto 4, 3) := by decide +kernel
theorem d_M_readNumber_222 : decode prog_13_method_30_code 222 = .ok (.iconst 0, 1) := by decide +kernel
theorem d_M_readNumber_223 : decode prog_13_method_30_code 223 = .ok (.istore 9, 2) := by decide +kernel
theorem d_M_readNumber_225 : decode prog_13_method_30_code 225 = .ok (.iload_n 3, 1) := by decide +kernel
theorem d_M_readNumber_226 : decode prog_13_method_30_code 226 = .ok (.ifCond .eq 8, 3) := by decide +kernel
theorem d_M_readNumber_229 : decode prog_13_method_30_code 229 = .ok (.lload 5, 2) := by decide +kernel
theorem d_M_readNumber_231 : decode prog_13_method_30_code 231 = .ok (.goto 6, 3) := by decide +kernel
theorem d_M_readNumber_234 : decode prog_13_method_30_code 234 = .ok (.lload 5, 2) := by decide +kernel
theorem d_M_readNumber_236 : decode prog_13_method_30_code 236 = .ok (.lneg, 1) := by decide +kernel
theorem d_M_readNumber_237 : decode prog_13_method_30_code 237 = .ok (.lstore 10, 2) := by decide +kernel
theorem d_M_readNumber_239 : decode prog_13_method_30_code 239 = .ok (.iload_n 1, 1) := by decide +kernel
theorem d_M_readNumber_240 : decode prog_13_method_30_code 240 = .ok (.iconst 1, 1) := by decide +kernel
theorem d_M_readNumber_241 : decode prog_13_method_30_code 241 = .ok (.if_icmp .ne 33, 3) := by decide +kernel
theorem d_M_readNumber_244 : decode prog_13_method_30_code 244 = .ok (.iload 9, 2) := by decide +kernel
theorem d_M_readNumber_246 : decode prog_13_method_30_code 246 = .ok (.ifCond .eq 25, 3) := by decide +kernel
theorem d_M_readNumber_249 : decode prog_13_method_30_code 249 = .ok (.lload 10, 2) := by decide +kernel
theorem d_M_readNumber_251 : decode prog_13_method_30_code 251 = .ok (.ldc2_w 189, 3) := by decide +kernel
theorem d_M_readNumber_254 : decode prog_13_method_30_code 254 = .ok (.lcmp, 1) := by decide +kernel
theorem d_M_readNumber_255 : decode prog_13_method_30_code 255 = .ok (.ifCond .lt 16, 3) := by decide +kernel
theorem d_M_readNumber_258 : decode prog_13_method_30_code 258 = .ok (.lload 10, 2) := by decide +kernel
theorem d_M_readNumber_260 : decode prog_13_method_30_code 260 = .ok (.ldc2_w 191, 3) := by decide +kernel
theorem d_M_readNumber_263 : decode prog_13_method_30_code 263 = .ok (.lcmp, 1) := by decide +kernel
theorem d_M_readNumber_264 : decode prog_13_method_30_code 264 = .ok (.ifCond .gt 7, 3) := by decide +kernel
theorem d_M_readNumber_267 : decode prog_13_method_30_code 267 = .ok (.iconst 1, 1) := by decide +kernel
theorem d_M_readNumber_268 : decode prog_13_method_30_code 268 = .ok (.goto 4, 3) := by decide +kernel
theorem d_M_readNumber_271 : decode prog_13_method_30_code 271 = .ok (.iconst 0, 1) := by decide +kernel
theorem d_M_readNumber_272 : decode prog_13_method_30_code 272 = .ok (.istore 9, 2) := by decide +kernel
theorem d_M_readNumber_274 : decode prog_13_method_30_code 274 = .ok (.iload 9, 2) := by decide +kernel
theorem d_M_readNumber_276 : decode prog_13_method_30_code 276 = .ok (.ifCond .ne 8, 3) := by decide +kernel
theorem d_M_readNumber_279 : decode prog_13_method_30_code 279 = .ok (.aload_n 0, 1) := by decide +kernel
theorem d_M_readNumber_280 : decode prog_13_method_30_code 280 = .ok (.iload_n 2, 1) := by decide +kernel
theorem d_M_readNumber_281 : decode prog_13_method_30_code 281 = .ok (.invokevirtual 114, 3) := by decide +kernel
theorem d_M_readNumber_284 : decode prog_13_method_30_code 284 = .ok (.lload 10, 2) := by decide +kernel
theorem d_M_readNumber_286 : decode prog_13_method_30_code 286 = .ok (.lreturn, 1) := by decide +kernel
theorem d_M_begin_0 : decode prog_13_method_37_code 0 = .ok (.aload_n 0, 1) := by decide +kernel
theorem d_M_begin_1 : decode prog_13_method_37_code 1 = .ok (.iconst 0, 1) := by decide +kernel
theorem d_M_begin_2 : decode prog_13_method_37_code 2 = .ok (.putfield 75, 3) := by decide +kernel
theorem d_M_begin_5 : decode prog_13_method_37_code 5 = .ok (.aload_n 0, 1) := by decide +kernel
theorem d_M_begin_6 : decode prog_13_method_37_code 6 = .ok (.invokevirtual 159, 3) := by decide +kernel
theorem d_M_begin_9 : decode prog_13_method_37_code 9 = .ok (.return_, 1) := by decide +kernel
theorem d_M_add_0 : decode prog_13_method_39_code 0 = .ok (.aload_n 0, 1) := by decide +kernel
theorem d_M_add_1 : decode prog_13_method_39_code 1 = .ok (.iconst 0, 1) := by decide +kernel
theorem d_M_add_2 : decode prog_13_method_39_code 2 = .ok (.putfield 75, 3) := by decide +kernel
theorem d_M_add_5 : decode prog_13_method_39_code 5 = .ok (.aload_n 0, 1) := by decide +kernel
theorem d_M_add_6 : decode prog_13_method_39_code 6 = .ok (.iload_n 1, 1) := by decide +kernel
theorem d_M_add_7 : decode prog_13_method_39_code 7 = .ok (.iload_n 2, 1) := by decide +kernel
theorem d_M_add_8 : decode prog_13_method_39_code 8 = .ok (.invokevirtual 224, 3) := by decide +kernel
theorem d_M_add_11 : decode prog_13_method_39_code 11 = .ok (.ifCond .eq 35, 3) := by decide +kernel
theorem d_M_add_14 : decode prog_13_method_39_code 14 = .ok (.aload_n 0, 1) := by decide +kernel
theorem d_M_add_15 : decode prog_13_method_39_code 15 = .ok (.getfield 18, 3) := by decide +kernel
theorem d_M_add_18 : decode prog_13_method_39_code 18 = .ok (.iconst 1, 1) := by decide +kernel
theorem d_M_add_19 : decode prog_13_method_39_code 19 = .ok (.aaload, 1) := by decide +kernel
theorem d_M_add_20 : decode prog_13_method_39_code 20 = .ok (.iload_n 2, 1) := by decide +kernel
theorem d_M_add_21 : decode prog_13_method_39_code 21 = .ok (.iaload, 1) := by decide +kernel
theorem d_M_add_22 : decode prog_13_method_39_code 22 = .ok (.iconst 3, 1) := by decide +kernel
theorem d_M_add_23 : decode prog_13_method_39_code 23 = .ok (.if_icmp .eq 23, 3) := by decide +kernel
theorem d_M_add_26 : decode prog_13_method_39_code 26 = .ok (.aload_n 0, 1) := by decide +kernel
theorem d_M_add_27 : decode prog_13_method_39_code 27 = .ok (.getfield 18, 3) := by decide +kernel
theorem d_M_add_30 : decode prog_13_method_39_code 30 = .ok (.iconst 1, 1) := by decide +kernel
theorem d_M_add_31 : decode prog_13_method_39_code 31 = .ok (.aaload, 1) := by decide +kernel
theorem d_M_add_32 : decode prog_13_method_39_code 32 = .ok (.iload_n 2, 1) := by decide +kernel
theorem d_M_add_33 : decode prog_13_method_39_code 33 = .ok (.iaload, 1) := by decide +kernel
theorem d_M_add_34 : decode prog_13_method_39_code 34 = .ok (.iconst 1, 1) := by decide +kernel
theorem d_M_add_35 : decode prog_13_method_39_code 35 = .ok (.if_icmp .ne 13, 3) := by decide +kernel
theorem d_M_add_38 : decode prog_13_method_39_code 38 = .ok (.lload_n 3, 1) := by decide +kernel
theorem d_M_add_39 : decode prog_13_method_39_code 39 = .ok (.lload_n 3, 1) := by decide +kernel
theorem d_M_add_40 : decode prog_13_method_39_code 40 = .ok (.l2i, 1) := by decide +kernel
theorem d_M_add_41 : decode prog_13_method_39_code 41 = .ok (.i2l, 1) := by decide +kernel
theorem d_M_add_42 : decode prog_13_method_39_code 42 = .ok (.lcmp, 1) := by decide +kernel
theorem d_M_add_43 : decode prog_13_method_39_code 43 = .ok (.ifCond .eq 5, 3) := by decide +kernel
theorem d_M_add_46 : decode prog_13_method_39_code 46 = .ok (.iconst (-1), 1) := by decide +kernel
theorem d_M_add_47 : decode prog_13_method_39_code 47 = .ok (.ireturn, 1) := by decide +kernel
theorem d_M_add_48 : decode prog_13_method_39_code 48 = .ok (.aload_n 0, 1) := by decide +kernel
theorem d_M_add_49 : decode prog_13_method_39_code 49 = .ok (.iload_n 1, 1) := by decide +kernel
theorem d_M_add_50 : decode prog_13_method_39_code 50 = .ok (.iload_n 2, 1) := by decide +kernel
theorem d_M_add_51 : decode prog_13_method_39_code 51 = .ok (.aload_n 0, 1) := by decide +kernel
theorem d_M_add_52 : decode prog_13_method_39_code 52 = .ok (.getfield 18, 3) := by decide +kernel
theorem d_M_add_55 : decode prog_13_method_39_code 55 = .ok (.iconst 1, 1) := by decide +kernel
theorem d_M_add_56 : decode prog_13_method_39_code 56 = .ok (.aaload, 1) := by decide +kernel
theorem d_M_add_57 : decode prog_13_method_39_code 57 = .ok (.iload_n 2, 1) := by decide +kernel
theorem d_M_add_58 : decode prog_13_method_39_code 58 = .ok (.iaload, 1) := by decide +kernel
theorem d_M_add_59 : decode prog_13_method_39_code 59 = .ok (.iconst 4, 1) := by decide +kernel
theorem d_M_add_60 : decode prog_13_method_39_code 60 = .ok (.if_icmp .ne 7, 3) := by decide +kernel
theorem d_M_add_63 : decode prog_13_method_39_code 63 = .ok (.lconst 0, 1) := by decide +kernel
theorem d_M_add_64 : decode prog_13_method_39_code 64 = .ok (.goto 29, 3) := by decide +kernel
theorem d_M_add_67 : decode prog_13_method_39_code 67 = .ok (.aload_n 0, 1) := by decide +kernel
theorem d_M_add_68 : decode prog_13_method_39_code 68 = .ok (.getfield 18, 3) := by decide +kernel
theorem d_M_add_71 : decode prog_13_method_39_code 71 = .ok (.iconst 1, 1) := by decide +kernel
theorem d_M_add_72 : decode prog_13_method_39_code 72 = .ok (.aaload, 1) := by decide +kernel
theorem d_M_add_73 : decode prog_13_method_39_code 73 = .ok (.iload_n 2, 1) := by decide +kernel
theorem d_M_add_74 : decode prog_13_method_39_code 74 = .ok (.iaload, 1) := by decide +kernel
theorem d_M_add_75 : decode prog_13_method_39_code 75 = .ok (.ifCond .ne 17, 3) := by decide +kernel
theorem d_M_add_78 : decode prog_13_method_39_code 78 = .ok (.lload_n 3, 1) := by decide +kernel
theorem d_M_add_79 : decode prog_13_method_39_code 79 = .ok (.lconst 0, 1) := by decide +kernel
theorem d_M_add_80 : decode prog_13_method_39_code 80 = .ok (.lcmp, 1) := by decide +kernel
theorem d_M_add_81 : decode prog_13_method_39_code 81 = .ok (.ifCond .eq 7, 3) := by decide +kernel
theorem d_M_add_84 : decode prog_13_method_39_code 84 = .ok (.lconst 1, 1) := by decide +kernel
theorem d_M_add_85 : decode prog_13_method_39_code 85 = .ok (.goto 8, 3) := by decide +kernel
theorem d_M_add_88 : decode prog_13_method_39_code 88 = .ok (.lconst 0, 1) := by decide +kernel
theorem d_M_add_89 : decode prog_13_method_39_code 89 = .ok (.goto 4, 3) := by decide +kernel
theorem d_M_add_92 : decode prog_13_method_39_code 92 = .ok (.lload_n 3, 1) := by decide +kernel
theorem d_M_add_93 : decode prog_13_method_39_code 93 = .ok (.invokevirtual 193, 3) := by decide +kernel
theorem d_M_add_96 : decode prog_13_method_39_code 96 = .ok (.ireturn, 1) := by decide +kernel
theorem d_M_may_0 : decode prog_13_method_38_code 0 = .ok (.aload_n 0, 1) := by decide +kernel
theorem d_M_may_1 : decode prog_13_method_38_code 1 = .ok (.iload_n 2, 1) := by decide +kernel
theorem d_M_may_2 : decode prog_13_method_38_code 2 = .ok (.invokevirtual 162, 3) := by decide +kernel
theorem d_M_may_5 : decode prog_13_method_38_code 5 = .ok (.ifCond .eq 25, 3) := by decide +kernel
theorem d_M_may_8 : decode prog_13_method_38_code 8 = .ok (.iload_n 1, 1) := by decide +kernel
theorem d_M_may_9 : decode prog_13_method_38_code 9 = .ok (.ifCond .lt 21, 3) := by decide +kernel
theorem d_M_may_12 : decode prog_13_method_38_code 12 = .ok (.iload_n 1, 1) := by decide +kernel
theorem d_M_may_13 : decode prog_13_method_38_code 13 = .ok (.aload_n 0, 1) := by decide +kernel
theorem d_M_may_14 : decode prog_13_method_38_code 14 = .ok (.getfield 46, 3) := by decide +kernel
theorem d_M_may_17 : decode prog_13_method_38_code 17 = .ok (.if_icmp .ge 13, 3) := by decide +kernel
theorem d_M_may_20 : decode prog_13_method_38_code 20 = .ok (.aload_n 0, 1) := by decide +kernel
theorem d_M_may_21 : decode prog_13_method_38_code 21 = .ok (.getfield 46, 3) := by decide +kernel
theorem d_M_may_24 : decode prog_13_method_38_code 24 = .ok (.sipush 2000, 3) := by decide +kernel
theorem d_M_may_27 : decode prog_13_method_38_code 27 = .ok (.if_icmp .ne 5, 3) := by decide +kernel
theorem d_M_may_30 : decode prog_13_method_38_code 30 = .ok (.iconst 0, 1) := by decide +kernel
theorem d_M_may_31 : decode prog_13_method_38_code 31 = .ok (.ireturn, 1) := by decide +kernel
theorem d_M_may_32 : decode prog_13_method_38_code 32 = .ok (.iconst 0, 1) := by decide +kernel
theorem d_M_may_33 : decode prog_13_method_38_code 33 = .ok (.istore_n 3, 1) := by decide +kernel
theorem d_M_may_34 : decode prog_13_method_38_code 34 = .ok (.aload_n 0, 1) := by decide +kernel
theorem d_M_may_35 : decode prog_13_method_38_code 35 = .ok (.getfield 46, 3) := by decide +kernel
theorem d_M_may_38 : decode prog_13_method_38_code 38 = .ok (.iconst 1, 1) := by decide +kernel
theorem d_M_may_39 : decode prog_13_method_38_code 39 = .ok (.isub, 1) := by decide +kernel
theorem d_M_may_40 : decode prog_13_method_38_code 40 = .ok (.istore 4, 2) := by decide +kernel
theorem d_M_may_42 : decode prog_13_method_38_code 42 = .ok (.iload 4, 2) := by decide +kernel
theorem d_M_may_44 : decode prog_13_method_38_code 44 = .ok (.iconst (-1), 1) := by decide +kernel
theorem d_M_may_45 : decode prog_13_method_38_code 45 = .ok (.if_icmp .eq 31, 3) := by decide +kernel
theorem d_M_may_48 : decode prog_13_method_38_code 48 = .ok (.iload_n 3, 1) := by decide +kernel
theorem d_M_may_49 : decode prog_13_method_38_code 49 = .ok (.ifCond .ne 9, 3) := by decide +kernel
theorem d_M_may_52 : decode prog_13_method_38_code 52 = .ok (.iload 4, 2) := by decide +kernel
theorem d_M_may_54 : decode prog_13_method_38_code 54 = .ok (.iload_n 1, 1) := by decide +kernel
theorem d_M_may_55 : decode prog_13_method_38_code 55 = .ok (.if_icmp .ne 7, 3) := by decide +kernel
theorem d_M_may_58 : decode prog_13_method_38_code 58 = .ok (.iconst 1, 1) := by decide +kernel
theorem d_M_may_59 : decode prog_13_method_38_code 59 = .ok (.goto 4, 3) := by decide +kernel
theorem d_M_may_62 : decode prog_13_method_38_code 62 = .ok (.iconst 0, 1) := by decide +kernel
theorem d_M_may_63 : decode prog_13_method_38_code 63 = .ok (.istore_n 3, 1) := by decide +kernel
theorem d_M_may_64 : decode prog_13_method_38_code 64 = .ok (.aload_n 0, 1) := by decide +kernel
theorem d_M_may_65 : decode prog_13_method_38_code 65 = .ok (.getfield 33, 3) := by decide +kernel
theorem d_M_may_68 : decode prog_13_method_38_code 68 = .ok (.iload 4, 2) := by decide +kernel
theorem d_M_may_70 : decode prog_13_method_38_code 70 = .ok (.iaload, 1) := by decide +kernel
theorem d_M_may_71 : decode prog_13_method_38_code 71 = .ok (.istore 4, 2) := by decide +kernel
theorem d_M_may_73 : decode prog_13_method_38_code 73 = .ok (.goto (-31), 3) := by decide +kernel
theorem d_M_may_76 : decode prog_13_method_38_code 76 = .ok (.iload_n 3, 1) := by decide +kernel
theorem d_M_may_77 : decode prog_13_method_38_code 77 = .ok (.ifCond .eq 24, 3) := by decide +kernel
theorem d_M_may_80 : decode prog_13_method_38_code 80 = .ok (.aload_n 0, 1) := by decide +kernel
theorem d_M_may_81 : decode prog_13_method_38_code 81 = .ok (.getfield 18, 3) := by decide +kernel
theorem d_M_may_84 : decode prog_13_method_38_code 84 = .ok (.iconst 2, 1) := by decide +kernel
theorem d_M_may_85 : decode prog_13_method_38_code 85 = .ok (.aaload, 1) := by decide +kernel
theorem d_M_may_86 : decode prog_13_method_38_code 86 = .ok (.iload_n 2, 1) := by decide +kernel
theorem d_M_may_87 : decode prog_13_method_38_code 87 = .ok (.iaload, 1) := by decide +kernel
theorem d_M_may_88 : decode prog_13_method_38_code 88 = .ok (.aload_n 0, 1) := by decide +kernel
theorem d_M_may_89 : decode prog_13_method_38_code 89 = .ok (.getfield 30, 3) := by decide +kernel
theorem d_M_may_92 : decode prog_13_method_38_code 92 = .ok (.iload_n 1, 1) := by decide +kernel
theorem d_M_may_93 : decode prog_13_method_38_code 93 = .ok (.iaload, 1) := by decide +kernel
theorem d_M_may_94 : decode prog_13_method_38_code 94 = .ok (.if_icmp .ne 7, 3) := by decide +kernel
theorem d_M_may_97 : decode prog_13_method_38_code 97 = .ok (.iconst 1, 1) := by decide +kernel
theorem d_M_may_98 : decode prog_13_method_38_code 98 = .ok (.goto 4, 3) := by decide +kernel
theorem d_M_may_101 : decode prog_13_method_38_code 101 = .ok (.iconst 0, 1) := by decide +kernel
theorem d_M_may_102 : decode prog_13_method_38_code 102 = .ok (.istore 4, 2) := by decide +kernel
theorem d_M_may_104 : decode prog_13_method_38_code 104 = .ok (.iconst 1, 1) := by decide +kernel
theorem d_M_may_105 : decode prog_13_method_38_code 105 = .ok (.istore 5, 2) := by decide +kernel
theorem d_M_may_107 : decode prog_13_method_38_code 107 = .ok (.iload 5, 2) := by decide +kernel
theorem d_M_may_109 : decode prog_13_method_38_code 109 = .ok (.aload_n 0, 1) := by decide +kernel
theorem d_M_may_110 : decode prog_13_method_38_code 110 = .ok (.getfield 46, 3) := by decide +kernel
theorem d_M_may_113 : decode prog_13_method_38_code 113 = .ok (.if_icmp .ge 66, 3) := by decide +kernel
theorem d_M_may_116 : decode prog_13_method_38_code 116 = .ok (.aload_n 0, 1) := by decide +kernel
theorem d_M_may_117 : decode prog_13_method_38_code 117 = .ok (.getfield 33, 3) := by decide +kernel
theorem d_M_may_120 : decode prog_13_method_38_code 120 = .ok (.iload 5, 2) := by decide +kernel
theorem d_M_may_122 : decode prog_13_method_38_code 122 = .ok (.iaload, 1) := by decide +kernel
theorem d_M_may_123 : decode prog_13_method_38_code 123 = .ok (.iload_n 1, 1) := by decide +kernel
theorem d_M_may_124 : decode prog_13_method_38_code 124 = .ok (.if_icmp .ne 49, 3) := by decide +kernel
theorem d_M_may_127 : decode prog_13_method_38_code 127 = .ok (.iload 4, 2) := by decide +kernel
theorem d_M_may_129 : decode prog_13_method_38_code 129 = .ok (.ifCond .eq 41, 3) := by decide +kernel
theorem d_M_may_132 : decode prog_13_method_38_code 132 = .ok (.aload_n 0, 1) := by decide +kernel
theorem d_M_may_133 : decode prog_13_method_38_code 133 = .ok (.getfield 30, 3) := by decide +kernel
theorem d_M_may_136 : decode prog_13_method_38_code 136 = .ok (.iload 5, 2) := by decide +kernel
theorem d_M_may_138 : decode prog_13_method_38_code 138 = .ok (.iaload, 1) := by decide +kernel
theorem d_M_may_139 : decode prog_13_method_38_code 139 = .ok (.iload_n 2, 1) := by decide +kernel
theorem d_M_may_140 : decode prog_13_method_38_code 140 = .ok (.if_icmp .lt 26, 3) := by decide +kernel
theorem d_M_may_143 : decode prog_13_method_38_code 143 = .ok (.aload_n 0, 1) := by decide +kernel
theorem d_M_may_144 : decode prog_13_method_38_code 144 = .ok (.getfield 30, 3) := by decide +kernel
theorem d_M_may_147 : decode prog_13_method_38_code 147 = .ok (.iload 5, 2) := by decide +kernel
theorem d_M_may_149 : decode prog_13_method_38_code 149 = .ok (.iaload, 1) := by decide +kernel
theorem d_M_may_150 : decode prog_13_method_38_code 150 = .ok (.iload_n 2, 1) := by decide +kernel
theorem d_M_may_151 : decode prog_13_method_38_code 151 = .ok (.if_icmp .ne 19, 3) := by decide +kernel
theorem d_M_may_154 : decode prog_13_method_38_code 154 = .ok (.aload_n 0, 1) := by decide +kernel
theorem d_M_may_155 : decode prog_13_method_38_code 155 = .ok (.getfield 18, 3) := by decide +kernel
theorem d_M_may_158 : decode prog_13_method_38_code 158 = .ok (.iconst 0, 1) := by decide +kernel
theorem d_M_may_159 : decode prog_13_method_38_code 159 = .ok (.aaload, 1) := by decide +kernel
theorem d_M_may_160 : decode prog_13_method_38_code 160 = .ok (.iload_n 2, 1) := by decide +kernel
theorem d_M_may_161 : decode prog_13_method_38_code 161 = .ok (.iaload, 1) := by decide +kernel
theorem d_M_may_162 : decode prog_13_method_38_code 162 = .ok (.iconst 2, 1) := by decide +kernel
theorem d_M_may_163 : decode prog_13_method_38_code 163 = .ok (.if_icmp .ne 7, 3) := by decide +kernel
theorem d_M_may_166 : decode prog_13_method_38_code 166 = .ok (.iconst 1, 1) := by decide +kernel
theorem d_M_may_167 : decode prog_13_method_38_code 167 = .ok (.goto 4, 3) := by decide +kernel
theorem d_M_may_170 : decode prog_13_method_38_code 170 = .ok (.iconst 0, 1) := by decide +kernel
theorem d_M_may_171 : decode prog_13_method_38_code 171 = .ok (.istore 4, 2) := by decide +kernel
theorem d_M_may_173 : decode prog_13_method_38_code 173 = .ok (.iinc 5 1, 3) := by decide +kernel
theorem d_M_may_176 : decode prog_13_method_38_code 176 = .ok (.goto (-69), 3) := by decide +kernel
theorem d_M_may_179 : decode prog_13_method_38_code 179 = .ok (.iload 4, 2) := by decide +kernel
theorem d_M_may_181 : decode prog_13_method_38_code 181 = .ok (.ireturn, 1) := by decide +kernel
theorem d_M_addText_0 : decode prog_13_method_40_code 0 = .ok (.aload_n 0, 1) := by decide +kernel
theorem d_M_addText_1 : decode prog_13_method_40_code 1 = .ok (.iconst 0, 1) := by decide +kernel
theorem d_M_addText_2 : decode prog_13_method_40_code 2 = .ok (.putfield 75, 3) := by decide +kernel
theorem d_M_addText_5 : decode prog_13_method_40_code 5 = .ok (.aload_n 0, 1) := by decide +kernel
theorem d_M_addText_6 : decode prog_13_method_40_code 6 = .ok (.iload_n 3, 1) := by decide +kernel
theorem d_M_addText_7 : decode prog_13_method_40_code 7 = .ok (.invokevirtual 150, 3) := by decide +kernel
theorem d_M_addText_10 : decode prog_13_method_40_code 10 = .ok (.ifCond .ne 6, 3) := by decide +kernel
theorem d_M_addText_13 : decode prog_13_method_40_code 13 = .ok (.bipush (-2), 2) := by decide +kernel
theorem d_M_addText_15 : decode prog_13_method_40_code 15 = .ok (.ireturn, 1) := by decide +kernel
theorem d_M_addText_16 : decode prog_13_method_40_code 16 = .ok (.aload_n 0, 1) := by decide +kernel
theorem d_M_addText_17 : decode prog_13_method_40_code 17 = .ok (.iload_n 1, 1) := by decide +kernel
theorem d_M_addText_18 : decode prog_13_method_40_code 18 = .ok (.iload_n 2, 1) := by decide +kernel
theorem d_M_addText_19 : decode prog_13_method_40_code 19 = .ok (.invokevirtual 224, 3) := by decide +kernel
theorem d_M_addText_22 : decode prog_13_method_40_code 22 = .ok (.ifCond .eq 34, 3) := by decide +kernel
theorem d_M_addText_25 : decode prog_13_method_40_code 25 = .ok (.aload_n 0, 1) := by decide +kernel
theorem d_M_addText_26 : decode prog_13_method_40_code 26 = .ok (.getfield 18, 3) := by decide +kernel
theorem d_M_addText_29 : decode prog_13_method_40_code 29 = .ok (.iconst 1, 1) := by decide +kernel
theorem d_M_addText_30 : decode prog_13_method_40_code 30 = .ok (.aaload, 1) := by decide +kernel
theorem d_M_addText_31 : decode prog_13_method_40_code 31 = .ok (.iload_n 2, 1) := by decide +kernel
theorem d_M_addText_32 : decode prog_13_method_40_code 32 = .ok (.iaload, 1) := by decide +kernel
theorem d_M_addText_33 : decode prog_13_method_40_code 33 = .ok (.iconst 3, 1) := by decide +kernel
theorem d_M_addText_34 : decode prog_13_method_40_code 34 = .ok (.if_icmp .ne 22, 3) := by decide +kernel
theorem d_M_addText_37 : decode prog_13_method_40_code 37 = .ok (.iload_n 3, 1) := by decide +kernel
theorem d_M_addText_38 : decode prog_13_method_40_code 38 = .ok (.sipush 255, 3) := by decide +kernel
theorem d_M_addText_41 : decode prog_13_method_40_code 41 = .ok (.if_icmp .gt 15, 3) := by decide +kernel
theorem d_M_addText_44 : decode prog_13_method_40_code 44 = .ok (.aload_n 0, 1) := by decide +kernel
theorem d_M_addText_45 : decode prog_13_method_40_code 45 = .ok (.getfield 173, 3) := by decide +kernel
theorem d_M_addText_48 : decode prog_13_method_40_code 48 = .ok (.iload_n 3, 1) := by decide +kernel
theorem d_M_addText_49 : decode prog_13_method_40_code 49 = .ok (.iadd, 1) := by decide +kernel
theorem d_M_addText_50 : decode prog_13_method_40_code 50 = .ok (.sipush 16000, 3) := by decide +kernel
theorem d_M_addText_53 : decode prog_13_method_40_code 53 = .ok (.if_icmp .le 5, 3) := by decide +kernel
theorem d_M_addText_56 : decode prog_13_method_40_code 56 = .ok (.iconst (-1), 1) := by decide +kernel
theorem d_M_addText_57 : decode prog_13_method_40_code 57 = .ok (.ireturn, 1) := by decide +kernel
theorem d_M_addText_58 : decode prog_13_method_40_code 58 = .ok (.aload_n 0, 1) := by decide +kernel
theorem d_M_addText_59 : decode prog_13_method_40_code 59 = .ok (.iload_n 1, 1) := by decide +kernel
theorem d_M_addText_60 : decode prog_13_method_40_code 60 = .ok (.iload_n 2, 1) := by decide +kernel
theorem d_M_addText_61 : decode prog_13_method_40_code 61 = .ok (.lconst 0, 1) := by decide +kernel
theorem d_M_addText_62 : decode prog_13_method_40_code 62 = .ok (.invokevirtual 193, 3) := by decide +kernel
theorem d_M_addText_65 : decode prog_13_method_40_code 65 = .ok (.istore 4, 2) := by decide +kernel
theorem d_M_addText_67 : decode prog_13_method_40_code 67 = .ok (.iconst 0, 1) := by decide +kernel
theorem d_M_addText_68 : decode prog_13_method_40_code 68 = .ok (.istore 5, 2) := by decide +kernel
theorem d_M_addText_70 : decode prog_13_method_40_code 70 = .ok (.iload 5, 2) := by decide +kernel
theorem d_M_addText_72 : decode prog_13_method_40_code 72 = .ok (.iload_n 3, 1) := by decide +kernel
theorem d_M_addText_73 : decode prog_13_method_40_code 73 = .ok (.if_icmp .ge 20, 3) := by decide +kernel
theorem d_M_addText_76 : decode prog_13_method_40_code 76 = .ok (.aload_n 0, 1) := by decide +kernel
theorem d_M_addText_77 : decode prog_13_method_40_code 77 = .ok (.aload_n 0, 1) := by decide +kernel
theorem d_M_addText_78 : decode prog_13_method_40_code 78 = .ok (.getfield 13, 3) := by decide +kernel
theorem d_M_addText_81 : decode prog_13_method_40_code 81 = .ok (.iload 5, 2) := by decide +kernel
theorem d_M_addText_83 : decode prog_13_method_40_code 83 = .ok (.iaload, 1) := by decide +kernel
theorem d_M_addText_84 : decode prog_13_method_40_code 84 = .ok (.invokevirtual 180, 3) := by decide +kernel
theorem d_M_addText_87 : decode prog_13_method_40_code 87 = .ok (.iinc 5 1, 3) := by decide +kernel
theorem d_M_addText_90 : decode prog_13_method_40_code 90 = .ok (.goto (-20), 3) := by decide +kernel
theorem d_M_addText_93 : decode prog_13_method_40_code 93 = .ok (.iload 4, 2) := by decide +kernel
theorem d_M_addText_95 : decode prog_13_method_40_code 95 = .ok (.ireturn, 1) := by decide +kernel
theorem d_M_nodes_0 : decode prog_13_method_41_code 0 = .ok (.aload_n 0, 1) := by decide +kernel
theorem d_M_nodes_1 : decode prog_13_method_41_code 1 = .ok (.iconst 0, 1) := by decide +kernel
theorem d_M_nodes_2 : decode prog_13_method_41_code 2 = .ok (.putfield 75, 3) := by decide +kernel
theorem d_M_nodes_5 : decode prog_13_method_41_code 5 = .ok (.aload_n 0, 1) := by decide +kernel
theorem d_M_nodes_6 : decode prog_13_method_41_code 6 = .ok (.getfield 46, 3) := by decide +kernel
theorem d_M_nodes_9 : decode prog_13_method_41_code 9 = .ok (.ireturn, 1) := by decide +kernel
theorem d_M_node2_0 : decode prog_13_method_43_code 0 = .ok (.aload_n 0, 1) := by decide +kernel
theorem d_M_node2_1 : decode prog_13_method_43_code 1 = .ok (.iconst 0, 1) := by decide +kernel
theorem d_M_node2_2 : decode prog_13_method_43_code 2 = .ok (.putfield 75, 3) := by decide +kernel
theorem d_M_node2_5 : decode prog_13_method_43_code 5 = .ok (.aload_n 0, 1) := by decide +kernel
theorem d_M_node2_6 : decode prog_13_method_43_code 6 = .ok (.iload_n 1, 1) := by decide +kernel
theorem d_M_node2_7 : decode prog_13_method_43_code 7 = .ok (.invokevirtual 228, 3) := by decide +kernel
theorem d_M_node2_10 : decode prog_13_method_43_code 10 = .ok (.ifCond .ne 5, 3) := by decide +kernel
theorem d_M_node2_13 : decode prog_13_method_43_code 13 = .ok (.iconst (-1), 1) := by decide +kernel
theorem d_M_node2_14 : decode prog_13_method_43_code 14 = .ok (.ireturn, 1) := by decide +kernel
theorem d_M_node2_15 : decode prog_13_method_43_code 15 = .ok (.iload_n 2, 1) := by decide +kernel
theorem d_M_node2_16 : decode prog_13_method_43_code 16 = .ok (.ifCond .ne 10, 3) := by decide +kernel
theorem d_M_node2_19 : decode prog_13_method_43_code 19 = .ok (.aload_n 0, 1) := by decide +kernel
theorem d_M_node2_20 : decode prog_13_method_43_code 20 = .ok (.getfield 30, 3) := by decide +kernel
theorem d_M_node2_23 : decode prog_13_method_43_code 23 = .ok (.iload_n 1, 1) := by decide +kernel
theorem d_M_node2_24 : decode prog_13_method_43_code 24 = .ok (.iaload, 1) := by decide +kernel
theorem d_M_node2_25 : decode prog_13_method_43_code 25 = .ok (.ireturn, 1) := by decide +kernel
theorem d_M_node2_26 : decode prog_13_method_43_code 26 = .ok (.iload_n 2, 1) := by decide +kernel
theorem d_M_node2_27 : decode prog_13_method_43_code 27 = .ok (.iconst 1, 1) := by decide +kernel
theorem d_M_node2_28 : decode prog_13_method_43_code 28 = .ok (.if_icmp .ne 10, 3) := by decide +kernel
theorem d_M_node2_31 : decode prog_13_method_43_code 31 = .ok (.aload_n 0, 1) := by decide +kernel
theorem d_M_node2_32 : decode prog_13_method_43_code 32 = .ok (.getfield 33, 3) := by decide +kernel
theorem d_M_node2_35 : decode prog_13_method_43_code 35 = .ok (.iload_n 1, 1) := by decide +kernel
theorem d_M_node2_36 : decode prog_13_method_43_code 36 = .ok (.iaload, 1) := by decide +kernel
theorem d_M_node2_37 : decode prog_13_method_43_code 37 = .ok (.ireturn, 1) := by decide +kernel
theorem d_M_node2_38 : decode prog_13_method_43_code 38 = .ok (.iload_n 2, 1) := by decide +kernel
theorem d_M_node2_39 : decode prog_13_method_43_code 39 = .ok (.iconst 3, 1) := by decide +kernel
theorem d_M_node2_40 : decode prog_13_method_43_code 40 = .ok (.if_icmp .ne 18, 3) := by decide +kernel
theorem d_M_node2_43 : decode prog_13_method_43_code 43 = .ok (.iload_n 1, 1) := by decide +kernel
theorem d_M_node2_44 : decode prog_13_method_43_code 44 = .ok (.ifCond .ne 7, 3) := by decide +kernel
theorem d_M_node2_47 : decode prog_13_method_43_code 47 = .ok (.iconst 0, 1) := by decide +kernel
theorem d_M_node2_48 : decode prog_13_method_43_code 48 = .ok (.goto 9, 3) := by decide +kernel
theorem d_M_node2_51 : decode prog_13_method_43_code 51 = .ok (.aload_n 0, 1) := by decide +kernel
theorem d_M_node2_52 : decode prog_13_method_43_code 52 = .ok (.getfield 39, 3) := by decide +kernel
theorem d_M_node2_55 : decode prog_13_method_43_code 55 = .ok (.iload_n 1, 1) := by decide +kernel
theorem d_M_node2_56 : decode prog_13_method_43_code 56 = .ok (.iaload, 1) := by decide +kernel
theorem d_M_node2_57 : decode prog_13_method_43_code 57 = .ok (.ireturn, 1) := by decide +kernel
theorem d_M_node2_58 : decode prog_13_method_43_code 58 = .ok (.iload_n 2, 1) := by decide +kernel
theorem d_M_node2_59 : decode prog_13_method_43_code 59 = .ok (.iconst 2, 1) := by decide +kernel
theorem d_M_node2_60 : decode prog_13_method_43_code 60 = .ok (.if_icmp .eq 5, 3) := by decide +kernel
theorem d_M_node2_63 : decode prog_13_method_43_code 63 = .ok (.iconst (-1), 1) := by decide +kernel
theorem d_M_node2_64 : decode prog_13_method_43_code 64 = .ok (.ireturn, 1) := by decide +kernel
theorem d_M_node2_65 : decode prog_13_method_43_code 65 = .ok (.iconst 0, 1) := by decide +kernel
theorem d_M_node2_66 : decode prog_13_method_43_code 66 = .ok (.istore_n 3, 1) := by decide +kernel
theorem d_M_node2_67 : decode prog_13_method_43_code 67 = .ok (.iconst 1, 1) := by decide +kernel
theorem d_M_node2_68 : decode prog_13_method_43_code 68 = .ok (.istore 4, 2) := by decide +kernel
theorem d_M_node2_70 : decode prog_13_method_43_code 70 = .ok (.iload 4, 2) := by decide +kernel
theorem d_M_node2_72 : decode prog_13_method_43_code 72 = .ok (.aload_n 0, 1) := by decide +kernel
theorem d_M_node2_73 : decode prog_13_method_43_code 73 = .ok (.getfield 46, 3) := by decide +kernel
theorem d_M_node2_76 : decode prog_13_method_43_code 76 = .ok (.if_icmp .ge 28, 3) := by decide +kernel
theorem d_M_node2_79 : decode prog_13_method_43_code 79 = .ok (.iload_n 3, 1) := by decide +kernel
theorem d_M_node2_80 : decode prog_13_method_43_code 80 = .ok (.aload_n 0, 1) := by decide +kernel
theorem d_M_node2_81 : decode prog_13_method_43_code 81 = .ok (.getfield 33, 3) := by decide +kernel
theorem d_M_node2_84 : decode prog_13_method_43_code 84 = .ok (.iload 4, 2) := by decide +kernel
theorem d_M_node2_86 : decode prog_13_method_43_code 86 = .ok (.iaload, 1) := by decide +kernel
theorem d_M_node2_87 : decode prog_13_method_43_code 87 = .ok (.iload_n 1, 1) := by decide +kernel
theorem d_M_node2_88 : decode prog_13_method_43_code 88 = .ok (.if_icmp .ne 7, 3) := by decide +kernel
theorem d_M_node2_91 : decode prog_13_method_43_code 91 = .ok (.iconst 1, 1) := by decide +kernel
theorem d_M_node2_92 : decode prog_13_method_43_code 92 = .ok (.goto 4, 3) := by decide +kernel
theorem d_M_node2_95 : decode prog_13_method_43_code 95 = .ok (.iconst 0, 1) := by decide +kernel
theorem d_M_node2_96 : decode prog_13_method_43_code 96 = .ok (.iadd, 1) := by decide +kernel
theorem d_M_node2_97 : decode prog_13_method_43_code 97 = .ok (.istore_n 3, 1) := by decide +kernel
theorem d_M_node2_98 : decode prog_13_method_43_code 98 = .ok (.iinc 4 1, 3) := by decide +kernel
theorem d_M_node2_101 : decode prog_13_method_43_code 101 = .ok (.goto (-31), 3) := by decide +kernel
theorem d_M_node2_104 : decode prog_13_method_43_code 104 = .ok (.iload_n 3, 1) := by decide +kernel
theorem d_M_node2_105 : decode prog_13_method_43_code 105 = .ok (.ireturn, 1) := by decide +kernel
theorem d_M_isNode_0 : decode prog_13_method_42_code 0 = .ok (.iload_n 1, 1) := by decide +kernel
theorem d_M_isNode_1 : decode prog_13_method_42_code 1 = .ok (.ifCond .lt 15, 3) := by decide +kernel
theorem d_M_isNode_4 : decode prog_13_method_42_code 4 = .ok (.iload_n 1, 1) := by decide +kernel
theorem d_M_isNode_5 : decode prog_13_method_42_code 5 = .ok (.aload_n 0, 1) := by decide +kernel
theorem d_M_isNode_6 : decode prog_13_method_42_code 6 = .ok (.getfield 46, 3) := by decide +kernel
theorem d_M_isNode_9 : decode prog_13_method_42_code 9 = .ok (.if_icmp .ge 7, 3) := by decide +kernel
theorem d_M_isNode_12 : decode prog_13_method_42_code 12 = .ok (.iconst 1, 1) := by decide +kernel
theorem d_M_isNode_13 : decode prog_13_method_42_code 13 = .ok (.goto 4, 3) := by decide +kernel
theorem d_M_isNode_16 : decode prog_13_method_42_code 16 = .ok (.iconst 0, 1) := by decide +kernel
theorem d_M_isNode_17 : decode prog_13_method_42_code 17 = .ok (.ireturn, 1) := by decide +kernel
theorem d_M_value_0 : decode prog_13_method_44_code 0 = .ok (.aload_n 0, 1) := by decide +kernel
theorem d_M_value_1 : decode prog_13_method_44_code 1 = .ok (.iconst 0, 1) := by decide +kernel
theorem d_M_value_2 : decode prog_13_method_44_code 2 = .ok (.putfield 75, 3) := by decide +kernel
theorem d_M_value_5 : decode prog_13_method_44_code 5 = .ok (.aload_n 0, 1) := by decide +kernel
theorem d_M_value_6 : decode prog_13_method_44_code 6 = .ok (.iload_n 1, 1) := by decide +kernel
theorem d_M_value_7 : decode prog_13_method_44_code 7 = .ok (.invokevirtual 228, 3) := by decide +kernel
theorem d_M_value_10 : decode prog_13_method_44_code 10 = .ok (.ifCond .eq 16, 3) := by decide +kernel
theorem d_M_value_13 : decode prog_13_method_44_code 13 = .ok (.iload_n 1, 1) := by decide +kernel
theorem d_M_value_14 : decode prog_13_method_44_code 14 = .ok (.ifCond .le 12, 3) := by decide +kernel
theorem d_M_value_17 : decode prog_13_method_44_code 17 = .ok (.aload_n 0, 1) := by decide +kernel
theorem d_M_value_18 : decode prog_13_method_44_code 18 = .ok (.getfield 42, 3) := by decide +kernel
theorem d_M_value_21 : decode prog_13_method_44_code 21 = .ok (.iload_n 1, 1) := by decide +kernel
theorem d_M_value_22 : decode prog_13_method_44_code 22 = .ok (.laload, 1) := by decide +kernel
theorem d_M_value_23 : decode prog_13_method_44_code 23 = .ok (.goto 4, 3) := by decide +kernel
theorem d_M_value_26 : decode prog_13_method_44_code 26 = .ok (.lconst 0, 1) := by decide +kernel
theorem d_M_value_27 : decode prog_13_method_44_code 27 = .ok (.lreturn, 1) := by decide +kernel
theorem d_M_textByte_0 : decode prog_13_method_45_code 0 = .ok (.aload_n 0, 1) := by decide +kernel
theorem d_M_textByte_1 : decode prog_13_method_45_code 1 = .ok (.iconst 0, 1) := by decide +kernel
theorem d_M_textByte_2 : decode prog_13_method_45_code 2 = .ok (.putfield 75, 3) := by decide +kernel
theorem d_M_textByte_5 : decode prog_13_method_45_code 5 = .ok (.aload_n 0, 1) := by decide +kernel
theorem d_M_textByte_6 : decode prog_13_method_45_code 6 = .ok (.iload_n 1, 1) := by decide +kernel
theorem d_M_textByte_7 : decode prog_13_method_45_code 7 = .ok (.invokevirtual 228, 3) := by decide +kernel
theorem d_M_textByte_10 : decode prog_13_method_45_code 10 = .ok (.ifCond .eq 21, 3) := by decide +kernel
theorem d_M_textByte_13 : decode prog_13_method_45_code 13 = .ok (.iload_n 1, 1) := by decide +kernel
theorem d_M_textByte_14 : decode prog_13_method_45_code 14 = .ok (.ifCond .eq 17, 3) := by decide +kernel
theorem d_M_textByte_17 : decode prog_13_method_45_code 17 = .ok (.iload_n 2, 1) := by decide +kernel
theorem d_M_textByte_18 : decode prog_13_method_45_code 18 = .ok (.ifCond .lt 13, 3) := by decide +kernel
theorem d_M_textByte_21 : decode prog_13_method_45_code 21 = .ok (.iload_n 2, 1) := by decide +kernel
theorem d_M_textByte_22 : decode prog_13_method_45_code 22 = .ok (.aload_n 0, 1) := by decide +kernel
theorem d_M_textByte_23 : decode prog_13_method_45_code 23 = .ok (.getfield 39, 3) := by decide +kernel
theorem d_M_textByte_26 : decode prog_13_method_45_code 26 = .ok (.iload_n 1, 1) := by decide +kernel
theorem d_M_textByte_27 : decode prog_13_method_45_code 27 = .ok (.iaload, 1) := by decide +kernel
theorem d_M_textByte_28 : decode prog_13_method_45_code 28 = .ok (.if_icmp .lt 7, 3) := by decide +kernel
theorem d_M_textByte_31 : decode prog_13_method_45_code 31 = .ok (.iconst (-1), 1) := by decide +kernel
theorem d_M_textByte_32 : decode prog_13_method_45_code 32 = .ok (.goto 16, 3) := by decide +kernel
theorem d_M_textByte_35 : decode prog_13_method_45_code 35 = .ok (.aload_n 0, 1) := by decide +kernel
theorem d_M_textByte_36 : decode prog_13_method_45_code 36 = .ok (.getfield 50, 3) := by decide +kernel
theorem d_M_textByte_39 : decode prog_13_method_45_code 39 = .ok (.aload_n 0, 1) := by decide +kernel
theorem d_M_textByte_40 : decode prog_13_method_45_code 40 = .ok (.getfield 36, 3) := by decide +kernel
theorem d_M_textByte_43 : decode prog_13_method_45_code 43 = .ok (.iload_n 1, 1) := by decide +kernel
theorem d_M_textByte_44 : decode prog_13_method_45_code 44 = .ok (.iaload, 1) := by decide +kernel
theorem d_M_textByte_45 : decode prog_13_method_45_code 45 = .ok (.iload_n 2, 1) := by decide +kernel
theorem d_M_textByte_46 : decode prog_13_method_45_code 46 = .ok (.iadd, 1) := by decide +kernel
theorem d_M_textByte_47 : decode prog_13_method_45_code 47 = .ok (.iaload, 1) := by decide +kernel
theorem d_M_textByte_48 : decode prog_13_method_45_code 48 = .ok (.ireturn, 1) := by decide +kernel
theorem d_M_isWhole_0 : decode prog_13_method_47_code 0 = .ok (.aload_n 0, 1) := by decide +kernel
theorem d_M_isWhole_1 : decode prog_13_method_47_code 1 = .ok (.iconst 0, 1) := by decide +kernel
theorem d_M_isWhole_2 : decode prog_13_method_47_code 2 = .ok (.putfield 75, 3) := by decide +kernel
theorem d_M_isWhole_5 : decode prog_13_method_47_code 5 = .ok (.aload_n 0, 1) := by decide +kernel
theorem d_M_isWhole_6 : decode prog_13_method_47_code 6 = .ok (.invokevirtual 231, 3) := by decide +kernel
theorem d_M_isWhole_9 : decode prog_13_method_47_code 9 = .ok (.ireturn, 1) := by decide +kernel
theorem d_M_whole_0 : decode prog_13_method_46_code 0 = .ok (.aload_n 0, 1) := by decide +kernel
theorem d_M_whole_1 : decode prog_13_method_46_code 1 = .ok (.getfield 153, 3) := by decide +kernel
theorem d_M_whole_4 : decode prog_13_method_46_code 4 = .ok (.ifCond .le 7, 3) := by decide +kernel
theorem d_M_whole_7 : decode prog_13_method_46_code 7 = .ok (.iconst 1, 1) := by decide +kernel
theorem d_M_whole_8 : decode prog_13_method_46_code 8 = .ok (.goto 4, 3) := by decide +kernel
theorem d_M_whole_11 : decode prog_13_method_46_code 11 = .ok (.iconst 0, 1) := by decide +kernel
theorem d_M_whole_12 : decode prog_13_method_46_code 12 = .ok (.istore_n 1, 1) := by decide +kernel
theorem d_M_whole_13 : decode prog_13_method_46_code 13 = .ok (.iconst 0, 1) := by decide +kernel
theorem d_M_whole_14 : decode prog_13_method_46_code 14 = .ok (.istore_n 2, 1) := by decide +kernel
theorem d_M_whole_15 : decode prog_13_method_46_code 15 = .ok (.iload_n 2, 1) := by decide +kernel
theorem d_M_whole_16 : decode prog_13_method_46_code 16 = .ok (.aload_n 0, 1) := by decide +kernel
theorem d_M_whole_17 : decode prog_13_method_46_code 17 = .ok (.getfield 46, 3) := by decide +kernel
theorem d_M_whole_20 : decode prog_13_method_46_code 20 = .ok (.if_icmp .ge 150, 3) := by decide +kernel
theorem d_M_whole_23 : decode prog_13_method_46_code 23 = .ok (.iload_n 2, 1) := by decide +kernel
theorem d_M_whole_24 : decode prog_13_method_46_code 24 = .ok (.ifCond .le 23, 3) := by decide +kernel
theorem d_M_whole_27 : decode prog_13_method_46_code 27 = .ok (.aload_n 0, 1) := by decide +kernel
theorem d_M_whole_28 : decode prog_13_method_46_code 28 = .ok (.getfield 18, 3) := by decide +kernel
theorem d_M_whole_31 : decode prog_13_method_46_code 31 = .ok (.iconst 1, 1) := by decide +kernel
theorem d_M_whole_32 : decode prog_13_method_46_code 32 = .ok (.aaload, 1) := by decide +kernel
theorem d_M_whole_33 : decode prog_13_method_46_code 33 = .ok (.aload_n 0, 1) := by decide +kernel
theorem d_M_whole_34 : decode prog_13_method_46_code 34 = .ok (.getfield 30, 3) := by decide +kernel
theorem d_M_whole_37 : decode prog_13_method_46_code 37 = .ok (.iload_n 2, 1) := by decide +kernel
theorem d_M_whole_38 : decode prog_13_method_46_code 38 = .ok (.iaload, 1) := by decide +kernel
theorem d_M_whole_39 : decode prog_13_method_46_code 39 = .ok (.iaload, 1) := by decide +kernel
theorem d_M_whole_40 : decode prog_13_method_46_code 40 = .ok (.iconst 4, 1) := by decide +kernel
theorem d_M_whole_41 : decode prog_13_method_46_code 41 = .ok (.if_icmp .eq 6, 3) := by decide +kernel
theorem d_M_whole_44 : decode prog_13_method_46_code 44 = .ok (.goto 120, 3) := by decide +kernel
theorem d_M_whole_47 : decode prog_13_method_46_code 47 = .ok (.iconst 0, 1) := by decide +kernel
theorem d_M_whole_48 : decode prog_13_method_46_code 48 = .ok (.istore_n 3, 1) := by decide +kernel
theorem d_M_whole_49 : decode prog_13_method_46_code 49 = .ok (.iload_n 3, 1) := by decide +kernel
theorem d_M_whole_50 : decode prog_13_method_46_code 50 = .ok (.aload_n 0, 1) := by decide +kernel
theorem d_M_whole_51 : decode prog_13_method_46_code 51 = .ok (.getfield 153, 3) := by decide +kernel
theorem d_M_whole_54 : decode prog_13_method_46_code 54 = .ok (.if_icmp .ge 110, 3) := by decide +kernel
theorem d_M_whole_57 : decode prog_13_method_46_code 57 = .ok (.aload_n 0, 1) := by decide +kernel
theorem d_M_whole_58 : decode prog_13_method_46_code 58 = .ok (.getfield 18, 3) := by decide +kernel
theorem d_M_whole_61 : decode prog_13_method_46_code 61 = .ok (.iconst 2, 1) := by decide +kernel
theorem d_M_whole_62 : decode prog_13_method_46_code 62 = .ok (.aaload, 1) := by decide +kernel
theorem d_M_whole_63 : decode prog_13_method_46_code 63 = .ok (.iload_n 3, 1) := by decide +kernel
theorem d_M_whole_64 : decode prog_13_method_46_code 64 = .ok (.iaload, 1) := by decide +kernel
theorem d_M_whole_65 : decode prog_13_method_46_code 65 = .ok (.aload_n 0, 1) := by decide +kernel
theorem d_M_whole_66 : decode prog_13_method_46_code 66 = .ok (.getfield 30, 3) := by decide +kernel
theorem d_M_whole_69 : decode prog_13_method_46_code 69 = .ok (.iload_n 2, 1) := by decide +kernel
theorem d_M_whole_70 : decode prog_13_method_46_code 70 = .ok (.iaload, 1) := by decide +kernel
theorem d_M_whole_71 : decode prog_13_method_46_code 71 = .ok (.if_icmp .ne 87, 3) := by decide +kernel
theorem d_M_whole_74 : decode prog_13_method_46_code 74 = .ok (.aload_n 0, 1) := by decide +kernel
theorem d_M_whole_75 : decode prog_13_method_46_code 75 = .ok (.getfield 18, 3) := by decide +kernel
theorem d_M_whole_78 : decode prog_13_method_46_code 78 = .ok (.iconst 0, 1) := by decide +kernel
theorem d_M_whole_79 : decode prog_13_method_46_code 79 = .ok (.aaload, 1) := by decide +kernel
theorem d_M_whole_80 : decode prog_13_method_46_code 80 = .ok (.iload_n 3, 1) := by decide +kernel
theorem d_M_whole_81 : decode prog_13_method_46_code 81 = .ok (.iaload, 1) := by decide +kernel
theorem d_M_whole_82 : decode prog_13_method_46_code 82 = .ok (.ifCond .eq 6, 3) := by decide +kernel
theorem d_M_whole_85 : decode prog_13_method_46_code 85 = .ok (.goto 73, 3) := by decide +kernel
theorem d_M_whole_88 : decode prog_13_method_46_code 88 = .ok (.iconst 0, 1) := by decide +kernel
theorem d_M_whole_89 : decode prog_13_method_46_code 89 = .ok (.istore 4, 2) := by decide +kernel
theorem d_M_whole_91 : decode prog_13_method_46_code 91 = .ok (.iconst 1, 1) := by decide +kernel
theorem d_M_whole_92 : decode prog_13_method_46_code 92 = .ok (.istore 5, 2) := by decide +kernel
theorem d_M_whole_94 : decode prog_13_method_46_code 94 = .ok (.iload 5, 2) := by decide +kernel
theorem d_M_whole_96 : decode prog_13_method_46_code 96 = .ok (.aload_n 0, 1) := by decide +kernel
theorem d_M_whole_97 : decode prog_13_method_46_code 97 = .ok (.getfield 46, 3) := by decide +kernel
theorem d_M_whole_100 : decode prog_13_method_46_code 100 = .ok (.if_icmp .ge 43, 3) := by decide +kernel
theorem d_M_whole_103 : decode prog_13_method_46_code 103 = .ok (.iload 4, 2) := by decide +kernel
theorem d_M_whole_105 : decode prog_13_method_46_code 105 = .ok (.ifCond .ne 25, 3) := by decide +kernel
theorem d_M_whole_108 : decode prog_13_method_46_code 108 = .ok (.aload_n 0, 1) := by decide +kernel
theorem d_M_whole_109 : decode prog_13_method_46_code 109 = .ok (.getfield 33, 3) := by decide +kernel
theorem d_M_whole_112 : decode prog_13_method_46_code 112 = .ok (.iload 5, 2) := by decide +kernel
theorem d_M_whole_114 : decode prog_13_method_46_code 114 = .ok (.iaload, 1) := by decide +kernel
theorem d_M_whole_115 : decode prog_13_method_46_code 115 = .ok (.iload_n 2, 1) := by decide +kernel
theorem d_M_whole_116 : decode prog_13_method_46_code 116 = .ok (.if_icmp .ne 18, 3) := by decide +kernel
theorem d_M_whole_119 : decode prog_13_method_46_code 119 = .ok (.aload_n 0, 1) := by decide +kernel
theorem d_M_whole_120 : decode prog_13_method_46_code 120 = .ok (.getfield 30, 3) := by decide +kernel
theorem d_M_whole_123 : decode prog_13_method_46_code 123 = .ok (.iload 5, 2) := by decide +kernel
theorem d_M_whole_125 : decode prog_13_method_46_code 125 = .ok (.iaload, 1) := by decide +kernel
theorem d_M_whole_126 : decode prog_13_method_46_code 126 = .ok (.iload_n 3, 1) := by decide +kernel
theorem d_M_whole_127 : decode prog_13_method_46_code 127 = .ok (.if_icmp .ne 7, 3) := by decide +kernel
theorem d_M_whole_130 : decode prog_13_method_46_code 130 = .ok (.iconst 1, 1) := by decide +kernel
theorem d_M_whole_131 : decode prog_13_method_46_code 131 = .ok (.goto 4, 3) := by decide +kernel
theorem d_M_whole_134 : decode prog_13_method_46_code 134 = .ok (.iconst 0, 1) := by decide +kernel
theorem d_M_whole_135 : decode prog_13_method_46_code 135 = .ok (.istore 4, 2) := by decide +kernel
theorem d_M_whole_137 : decode prog_13_method_46_code 137 = .ok (.iinc 5 1, 3) := by decide +kernel
theorem d_M_whole_140 : decode prog_13_method_46_code 140 = .ok (.goto (-46), 3) := by decide +kernel
theorem d_M_whole_143 : decode prog_13_method_46_code 143 = .ok (.iload_n 1, 1) := by decide +kernel
theorem d_M_whole_144 : decode prog_13_method_46_code 144 = .ok (.ifCond .eq 12, 3) := by decide +kernel
theorem d_M_whole_147 : decode prog_13_method_46_code 147 = .ok (.iload 4, 2) := by decide +kernel
theorem d_M_whole_149 : decode prog_13_method_46_code 149 = .ok (.ifCond .eq 7, 3) := by decide +kernel
theorem d_M_whole_152 : decode prog_13_method_46_code 152 = .ok (.iconst 1, 1) := by decide +kernel
theorem d_M_whole_153 : decode prog_13_method_46_code 153 = .ok (.goto 4, 3) := by decide +kernel
theorem d_M_whole_156 : decode prog_13_method_46_code 156 = .ok (.iconst 0, 1) := by decide +kernel
theorem d_M_whole_157 : decode prog_13_method_46_code 157 = .ok (.istore_n 1, 1) := by decide +kernel
theorem d_M_whole_158 : decode prog_13_method_46_code 158 = .ok (.iinc 3 1, 3) := by decide +kernel
theorem d_M_whole_161 : decode prog_13_method_46_code 161 = .ok (.goto (-112), 3) := by decide +kernel
theorem d_M_whole_164 : decode prog_13_method_46_code 164 = .ok (.iinc 2 1, 3) := by decide +kernel
theorem d_M_whole_167 : decode prog_13_method_46_code 167 = .ok (.goto (-152), 3) := by decide +kernel
theorem d_M_whole_170 : decode prog_13_method_46_code 170 = .ok (.iload_n 1, 1) := by decide +kernel
theorem d_M_whole_171 : decode prog_13_method_46_code 171 = .ok (.ireturn, 1) := by decide +kernel
theorem d_M_write_0 : decode prog_13_method_55_code 0 = .ok (.aload_n 0, 1) := by decide +kernel
theorem d_M_write_1 : decode prog_13_method_55_code 1 = .ok (.iconst 0, 1) := by decide +kernel
theorem d_M_write_2 : decode prog_13_method_55_code 2 = .ok (.putfield 75, 3) := by decide +kernel
theorem d_M_write_5 : decode prog_13_method_55_code 5 = .ok (.aload_n 0, 1) := by decide +kernel
theorem d_M_write_6 : decode prog_13_method_55_code 6 = .ok (.iconst 0, 1) := by decide +kernel
theorem d_M_write_7 : decode prog_13_method_55_code 7 = .ok (.putfield 235, 3) := by decide +kernel
theorem d_M_write_10 : decode prog_13_method_55_code 10 = .ok (.aload_n 0, 1) := by decide +kernel
theorem d_M_write_11 : decode prog_13_method_55_code 11 = .ok (.invokevirtual 231, 3) := by decide +kernel
theorem d_M_write_14 : decode prog_13_method_55_code 14 = .ok (.ifCond .ne 5, 3) := by decide +kernel
theorem d_M_write_17 : decode prog_13_method_55_code 17 = .ok (.iconst (-1), 1) := by decide +kernel
theorem d_M_write_18 : decode prog_13_method_55_code 18 = .ok (.ireturn, 1) := by decide +kernel
theorem d_M_write_19 : decode prog_13_method_55_code 19 = .ok (.aload_n 0, 1) := by decide +kernel
theorem d_M_write_20 : decode prog_13_method_55_code 20 = .ok (.iconst 0, 1) := by decide +kernel
theorem d_M_write_21 : decode prog_13_method_55_code 21 = .ok (.invokevirtual 250, 3) := by decide +kernel
theorem d_M_write_24 : decode prog_13_method_55_code 24 = .ok (.aload_n 0, 1) := by decide +kernel
theorem d_M_write_25 : decode prog_13_method_55_code 25 = .ok (.getfield 235, 3) := by decide +kernel
theorem d_M_write_28 : decode prog_13_method_55_code 28 = .ok (.ireturn, 1) := by decide +kernel
theorem d_M_putGroup_0 : decode prog_13_method_54_code 0 = .ok (.aload_n 0, 1) := by decide +kernel
theorem d_M_putGroup_1 : decode prog_13_method_54_code 1 = .ok (.bipush 123, 2) := by decide +kernel
theorem d_M_putGroup_3 : decode prog_13_method_54_code 3 = .ok (.invokevirtual 238, 3) := by decide +kernel
theorem d_M_putGroup_6 : decode prog_13_method_54_code 6 = .ok (.iconst 0, 1) := by decide +kernel
theorem d_M_putGroup_7 : decode prog_13_method_54_code 7 = .ok (.istore_n 2, 1) := by decide +kernel
theorem d_M_putGroup_8 : decode prog_13_method_54_code 8 = .ok (.iconst 0, 1) := by decide +kernel
theorem d_M_putGroup_9 : decode prog_13_method_54_code 9 = .ok (.istore_n 3, 1) := by decide +kernel
theorem d_M_putGroup_10 : decode prog_13_method_54_code 10 = .ok (.iload_n 3, 1) := by decide +kernel
theorem d_M_putGroup_11 : decode prog_13_method_54_code 11 = .ok (.aload_n 0, 1) := by decide +kernel
theorem d_M_putGroup_12 : decode prog_13_method_54_code 12 = .ok (.getfield 153, 3) := by decide +kernel
theorem d_M_putGroup_15 : decode prog_13_method_54_code 15 = .ok (.if_icmp .ge 195, 3) := by decide +kernel
theorem d_M_putGroup_18 : decode prog_13_method_54_code 18 = .ok (.aload_n 0, 1) := by decide +kernel
theorem d_M_putGroup_19 : decode prog_13_method_54_code 19 = .ok (.getfield 18, 3) := by decide +kernel
theorem d_M_putGroup_22 : decode prog_13_method_54_code 22 = .ok (.iconst 2, 1) := by decide +kernel
theorem d_M_putGroup_23 : decode prog_13_method_54_code 23 = .ok (.aaload, 1) := by decide +kernel
theorem d_M_putGroup_24 : decode prog_13_method_54_code 24 = .ok (.iload_n 3, 1) := by decide +kernel
theorem d_M_putGroup_25 : decode prog_13_method_54_code 25 = .ok (.iaload, 1) := by decide +kernel
theorem d_M_putGroup_26 : decode prog_13_method_54_code 26 = .ok (.aload_n 0, 1) := by decide +kernel
theorem d_M_putGroup_27 : decode prog_13_method_54_code 27 = .ok (.getfield 30, 3) := by decide +kernel
theorem d_M_putGroup_30 : decode prog_13_method_54_code 30 = .ok (.iload_n 1, 1) := by decide +kernel
theorem d_M_putGroup_31 : decode prog_13_method_54_code 31 = .ok (.iaload, 1) := by decide +kernel
theorem d_M_putGroup_32 : decode prog_13_method_54_code 32 = .ok (.if_icmp .eq 6, 3) := by decide +kernel
theorem d_M_putGroup_35 : decode prog_13_method_54_code 35 = .ok (.goto 169, 3) := by decide +kernel
theorem d_M_putGroup_38 : decode prog_13_method_54_code 38 = .ok (.iconst 0, 1) := by decide +kernel
theorem d_M_putGroup_39 : decode prog_13_method_54_code 39 = .ok (.istore 4, 2) := by decide +kernel
theorem d_M_putGroup_41 : decode prog_13_method_54_code 41 = .ok (.iconst 1, 1) := by decide +kernel
theorem d_M_putGroup_42 : decode prog_13_method_54_code 42 = .ok (.istore 5, 2) := by decide +kernel
theorem d_M_putGroup_44 : decode prog_13_method_54_code 44 = .ok (.iload 5, 2) := by decide +kernel
theorem d_M_putGroup_46 : decode prog_13_method_54_code 46 = .ok (.aload_n 0, 1) := by decide +kernel
theorem d_M_putGroup_47 : decode prog_13_method_54_code 47 = .ok (.getfield 46, 3) := by decide +kernel
theorem d_M_putGroup_50 : decode prog_13_method_54_code 50 = .ok (.if_icmp .ge 131, 3) := by decide +kernel
theorem d_M_putGroup_53 : decode prog_13_method_54_code 53 = .ok (.aload_n 0, 1) := by decide +kernel
theorem d_M_putGroup_54 : decode prog_13_method_54_code 54 = .ok (.getfield 33, 3) := by decide +kernel
theorem d_M_putGroup_57 : decode prog_13_method_54_code 57 = .ok (.iload 5, 2) := by decide +kernel
theorem d_M_putGroup_59 : decode prog_13_method_54_code 59 = .ok (.iaload, 1) := by decide +kernel
theorem d_M_putGroup_60 : decode prog_13_method_54_code 60 = .ok (.iload_n 1, 1) := by decide +kernel
theorem d_M_putGroup_61 : decode prog_13_method_54_code 61 = .ok (.if_icmp .ne 114, 3) := by decide +kernel
theorem d_M_putGroup_64 : decode prog_13_method_54_code 64 = .ok (.aload_n 0, 1) := by decide +kernel
theorem d_M_putGroup_65 : decode prog_13_method_54_code 65 = .ok (.getfield 30, 3) := by decide +kernel
theorem d_M_putGroup_68 : decode prog_13_method_54_code 68 = .ok (.iload 5, 2) := by decide +kernel
theorem d_M_putGroup_70 : decode prog_13_method_54_code 70 = .ok (.iaload, 1) := by decide +kernel
theorem d_M_putGroup_71 : decode prog_13_method_54_code 71 = .ok (.iload_n 3, 1) := by decide +kernel
theorem d_M_putGroup_72 : decode prog_13_method_54_code 72 = .ok (.if_icmp .eq 6, 3) := by decide +kernel
theorem d_M_putGroup_75 : decode prog_13_method_54_code 75 = .ok (.goto 100, 3) := by decide +kernel
theorem d_M_putGroup_78 : decode prog_13_method_54_code 78 = .ok (.iload 4, 2) := by decide +kernel
theorem d_M_putGroup_80 : decode prog_13_method_54_code 80 = .ok (.ifCond .ne 78, 3) := by decide +kernel
theorem d_M_putGroup_83 : decode prog_13_method_54_code 83 = .ok (.iload_n 2, 1) := by decide +kernel
theorem d_M_putGroup_84 : decode prog_13_method_54_code 84 = .ok (.ifCond .eq 9, 3) := by decide +kernel
theorem d_M_putGroup_87 : decode prog_13_method_54_code 87 = .ok (.aload_n 0, 1) := by decide +kernel
theorem d_M_putGroup_88 : decode prog_13_method_54_code 88 = .ok (.bipush 44, 2) := by decide +kernel
theorem d_M_putGroup_90 : decode prog_13_method_54_code 90 = .ok (.invokevirtual 238, 3) := by decide +kernel
theorem d_M_putGroup_93 : decode prog_13_method_54_code 93 = .ok (.iconst 0, 1) := by decide +kernel
theorem d_M_putGroup_94 : decode prog_13_method_54_code 94 = .ok (.istore 6, 2) := by decide +kernel
theorem d_M_putGroup_96 : decode prog_13_method_54_code 96 = .ok (.iload 6, 2) := by decide +kernel
theorem d_M_putGroup_98 : decode prog_13_method_54_code 98 = .ok (.aload_n 0, 1) := by decide +kernel
theorem d_M_putGroup_99 : decode prog_13_method_54_code 99 = .ok (.getfield 18, 3) := by decide +kernel
theorem d_M_putGroup_102 : decode prog_13_method_54_code 102 = .ok (.iconst 4, 1) := by decide +kernel
theorem d_M_putGroup_103 : decode prog_13_method_54_code 103 = .ok (.aaload, 1) := by decide +kernel
theorem d_M_putGroup_104 : decode prog_13_method_54_code 104 = .ok (.iload_n 3, 1) := by decide +kernel
theorem d_M_putGroup_105 : decode prog_13_method_54_code 105 = .ok (.iaload, 1) := by decide +kernel
theorem d_M_putGroup_106 : decode prog_13_method_54_code 106 = .ok (.if_icmp .ge 25, 3) := by decide +kernel
theorem d_M_putGroup_109 : decode prog_13_method_54_code 109 = .ok (.aload_n 0, 1) := by decide +kernel
theorem d_M_putGroup_110 : decode prog_13_method_54_code 110 = .ok (.aload_n 0, 1) := by decide +kernel
theorem d_M_putGroup_111 : decode prog_13_method_54_code 111 = .ok (.getfield 24, 3) := by decide +kernel
theorem d_M_putGroup_114 : decode prog_13_method_54_code 114 = .ok (.bipush 16, 2) := by decide +kernel
theorem d_M_putGroup_116 : decode prog_13_method_54_code 116 = .ok (.iload_n 3, 1) := by decide +kernel
theorem d_M_putGroup_117 : decode prog_13_method_54_code 117 = .ok (.imul, 1) := by decide +kernel
theorem d_M_putGroup_118 : decode prog_13_method_54_code 118 = .ok (.iload 6, 2) := by decide +kernel
theorem d_M_putGroup_120 : decode prog_13_method_54_code 120 = .ok (.iadd, 1) := by decide +kernel
theorem d_M_putGroup_121 : decode prog_13_method_54_code 121 = .ok (.iaload, 1) := by decide +kernel
theorem d_M_putGroup_122 : decode prog_13_method_54_code 122 = .ok (.invokevirtual 238, 3) := by decide +kernel
theorem d_M_putGroup_125 : decode prog_13_method_54_code 125 = .ok (.iinc 6 1, 3) := by decide +kernel
theorem d_M_putGroup_128 : decode prog_13_method_54_code 128 = .ok (.goto (-32), 3) := by decide +kernel
theorem d_M_putGroup_131 : decode prog_13_method_54_code 131 = .ok (.aload_n 0, 1) := by decide +kernel
theorem d_M_putGroup_132 : decode prog_13_method_54_code 132 = .ok (.bipush 58, 2) := by decide +kernel
theorem d_M_putGroup_134 : decode prog_13_method_54_code 134 = .ok (.invokevirtual 238, 3) := by decide +kernel
theorem d_M_putGroup_137 : decode prog_13_method_54_code 137 = .ok (.aload_n 0, 1) := by decide +kernel
theorem d_M_putGroup_138 : decode prog_13_method_54_code 138 = .ok (.getfield 18, 3) := by decide +kernel
theorem d_M_putGroup_141 : decode prog_13_method_54_code 141 = .ok (.iconst 0, 1) := by decide +kernel
theorem d_M_putGroup_142 : decode prog_13_method_54_code 142 = .ok (.aaload, 1) := by decide +kernel
theorem d_M_putGroup_143 : decode prog_13_method_54_code 143 = .ok (.iload_n 3, 1) := by decide +kernel
theorem d_M_putGroup_144 : decode prog_13_method_54_code 144 = .ok (.iaload, 1) := by decide +kernel
theorem d_M_putGroup_145 : decode prog_13_method_54_code 145 = .ok (.iconst 2, 1) := by decide +kernel
theorem d_M_putGroup_146 : decode prog_13_method_54_code 146 = .ok (.if_icmp .ne 18, 3) := by decide +kernel
theorem d_M_putGroup_149 : decode prog_13_method_54_code 149 = .ok (.aload_n 0, 1) := by decide +kernel
theorem d_M_putGroup_150 : decode prog_13_method_54_code 150 = .ok (.bipush 91, 2) := by decide +kernel
theorem d_M_putGroup_152 : decode prog_13_method_54_code 152 = .ok (.invokevirtual 238, 3) := by decide +kernel
theorem d_M_putGroup_155 : decode prog_13_method_54_code 155 = .ok (.goto 9, 3) := by decide +kernel
theorem d_M_putGroup_158 : decode prog_13_method_54_code 158 = .ok (.aload_n 0, 1) := by decide +kernel
theorem d_M_putGroup_159 : decode prog_13_method_54_code 159 = .ok (.bipush 44, 2) := by decide +kernel
theorem d_M_putGroup_161 : decode prog_13_method_54_code 161 = .ok (.invokevirtual 238, 3) := by decide +kernel
theorem d_M_putGroup_164 : decode prog_13_method_54_code 164 = .ok (.aload_n 0, 1) := by decide +kernel
theorem d_M_putGroup_165 : decode prog_13_method_54_code 165 = .ok (.iload 5, 2) := by decide +kernel
theorem d_M_putGroup_167 : decode prog_13_method_54_code 167 = .ok (.invokevirtual 263, 3) := by decide +kernel
theorem d_M_putGroup_170 : decode prog_13_method_54_code 170 = .ok (.iconst 1, 1) := by decide +kernel
theorem d_M_putGroup_171 : decode prog_13_method_54_code 171 = .ok (.istore_n 2, 1) := by decide +kernel
theorem d_M_putGroup_172 : decode prog_13_method_54_code 172 = .ok (.iinc 4 1, 3) := by decide +kernel
theorem d_M_putGroup_175 : decode prog_13_method_54_code 175 = .ok (.iinc 5 1, 3) := by decide +kernel
theorem d_M_putGroup_178 : decode prog_13_method_54_code 178 = .ok (.goto (-134), 3) := by decide +kernel
theorem d_M_putGroup_181 : decode prog_13_method_54_code 181 = .ok (.iload 4, 2) := by decide +kernel
theorem d_M_putGroup_183 : decode prog_13_method_54_code 183 = .ok (.ifCond .le 21, 3) := by decide +kernel
theorem d_M_putGroup_186 : decode prog_13_method_54_code 186 = .ok (.aload_n 0, 1) := by decide +kernel
theorem d_M_putGroup_187 : decode prog_13_method_54_code 187 = .ok (.getfield 18, 3) := by decide +kernel
theorem d_M_putGroup_190 : decode prog_13_method_54_code 190 = .ok (.iconst 0, 1) := by decide +kernel
theorem d_M_putGroup_191 : decode prog_13_method_54_code 191 = .ok (.aaload, 1) := by decide +kernel
theorem d_M_putGroup_192 : decode prog_13_method_54_code 192 = .ok (.iload_n 3, 1) := by decide +kernel
theorem d_M_putGroup_193 : decode prog_13_method_54_code 193 = .ok (.iaload, 1) := by decide +kernel
theorem d_M_putGroup_194 : decode prog_13_method_54_code 194 = .ok (.iconst 2, 1) := by decide +kernel
theorem d_M_putGroup_195 : decode prog_13_method_54_code 195 = .ok (.if_icmp .ne 9, 3) := by decide +kernel
theorem d_M_putGroup_198 : decode prog_13_method_54_code 198 = .ok (.aload_n 0, 1) := by decide +kernel
theorem d_M_putGroup_199 : decode prog_13_method_54_code 199 = .ok (.bipush 93, 2) := by decide +kernel
theorem d_M_putGroup_201 : decode prog_13_method_54_code 201 = .ok (.invokevirtual 238, 3) := by decide +kernel
theorem d_M_putGroup_204 : decode prog_13_method_54_code 204 = .ok (.iinc 3 1, 3) := by decide +kernel
theorem d_M_putGroup_207 : decode prog_13_method_54_code 207 = .ok (.goto (-197), 3) := by decide +kernel
theorem d_M_putGroup_210 : decode prog_13_method_54_code 210 = .ok (.aload_n 0, 1) := by decide +kernel
theorem d_M_putGroup_211 : decode prog_13_method_54_code 211 = .ok (.bipush 125, 2) := by decide +kernel
theorem d_M_putGroup_213 : decode prog_13_method_54_code 213 = .ok (.invokevirtual 238, 3) := by decide +kernel
theorem d_M_putGroup_216 : decode prog_13_method_54_code 216 = .ok (.return_, 1) := by decide +kernel
theorem d_M_put_0 : decode prog_13_method_48_code 0 = .ok (.aload_n 0, 1) := by decide +kernel
theorem d_M_put_1 : decode prog_13_method_48_code 1 = .ok (.getfield 72, 3) := by decide +kernel
theorem d_M_put_4 : decode prog_13_method_48_code 4 = .ok (.aload_n 0, 1) := by decide +kernel
theorem d_M_put_5 : decode prog_13_method_48_code 5 = .ok (.getfield 235, 3) := by decide +kernel
theorem d_M_put_8 : decode prog_13_method_48_code 8 = .ok (.iload_n 1, 1) := by decide +kernel
theorem d_M_put_9 : decode prog_13_method_48_code 9 = .ok (.iastore, 1) := by decide +kernel
theorem d_M_put_10 : decode prog_13_method_48_code 10 = .ok (.aload_n 0, 1) := by decide +kernel
theorem d_M_put_11 : decode prog_13_method_48_code 11 = .ok (.dup, 1) := by decide +kernel
theorem d_M_put_12 : decode prog_13_method_48_code 12 = .ok (.getfield 235, 3) := by decide +kernel
theorem d_M_put_15 : decode prog_13_method_48_code 15 = .ok (.iconst 1, 1) := by decide +kernel
theorem d_M_put_16 : decode prog_13_method_48_code 16 = .ok (.iadd, 1) := by decide +kernel
theorem d_M_put_17 : decode prog_13_method_48_code 17 = .ok (.putfield 235, 3) := by decide +kernel
theorem d_M_put_20 : decode prog_13_method_48_code 20 = .ok (.return_, 1) := by decide +kernel
theorem d_M_putValue_0 : decode prog_13_method_53_code 0 = .ok (.aload_n 0, 1) := by decide +kernel
theorem d_M_putValue_1 : decode prog_13_method_53_code 1 = .ok (.getfield 18, 3) := by decide +kernel
theorem d_M_putValue_4 : decode prog_13_method_53_code 4 = .ok (.iconst 1, 1) := by decide +kernel
theorem d_M_putValue_5 : decode prog_13_method_53_code 5 = .ok (.aaload, 1) := by decide +kernel
theorem d_M_putValue_6 : decode prog_13_method_53_code 6 = .ok (.aload_n 0, 1) := by decide +kernel
theorem d_M_putValue_7 : decode prog_13_method_53_code 7 = .ok (.getfield 30, 3) := by decide +kernel
theorem d_M_putValue_10 : decode prog_13_method_53_code 10 = .ok (.iload_n 1, 1) := by decide +kernel
theorem d_M_putValue_11 : decode prog_13_method_53_code 11 = .ok (.iaload, 1) := by decide +kernel
theorem d_M_putValue_12 : decode prog_13_method_53_code 12 = .ok (.iaload, 1) := by decide +kernel
theorem d_M_putValue_13 : decode prog_13_method_53_code 13 = .ok (.istore_n 2, 1) := by decide +kernel
theorem d_M_putValue_14 : decode prog_13_method_53_code 14 = .ok (.iload_n 2, 1) := by decide +kernel
theorem d_M_putValue_15 : decode prog_13_method_53_code 15 = .ok (.iconst 4, 1) := by decide +kernel
theorem d_M_putValue_16 : decode prog_13_method_53_code 16 = .ok (.if_icmp .ne 11, 3) := by decide +kernel
theorem d_M_putValue_19 : decode prog_13_method_53_code 19 = .ok (.aload_n 0, 1) := by decide +kernel
theorem d_M_putValue_20 : decode prog_13_method_53_code 20 = .ok (.iload_n 1, 1) := by decide +kernel
theorem d_M_putValue_21 : decode prog_13_method_53_code 21 = .ok (.invokevirtual 250, 3) := by decide +kernel
theorem d_M_putValue_24 : decode prog_13_method_53_code 24 = .ok (.goto 57, 3) := by decide +kernel
theorem d_M_putValue_27 : decode prog_13_method_53_code 27 = .ok (.iload_n 2, 1) := by decide +kernel
theorem d_M_putValue_28 : decode prog_13_method_53_code 28 = .ok (.iconst 3, 1) := by decide +kernel
theorem d_M_putValue_29 : decode prog_13_method_53_code 29 = .ok (.if_icmp .ne 11, 3) := by decide +kernel
theorem d_M_putValue_32 : decode prog_13_method_53_code 32 = .ok (.aload_n 0, 1) := by decide +kernel
theorem d_M_putValue_33 : decode prog_13_method_53_code 33 = .ok (.iload_n 1, 1) := by decide +kernel
theorem d_M_putValue_34 : decode prog_13_method_53_code 34 = .ok (.invokevirtual 253, 3) := by decide +kernel
theorem d_M_putValue_37 : decode prog_13_method_53_code 37 = .ok (.goto 44, 3) := by decide +kernel
theorem d_M_putValue_40 : decode prog_13_method_53_code 40 = .ok (.iload_n 2, 1) := by decide +kernel
theorem d_M_putValue_41 : decode prog_13_method_53_code 41 = .ok (.ifCond .ne 30, 3) := by decide +kernel
theorem d_M_putValue_44 : decode prog_13_method_53_code 44 = .ok (.aload_n 0, 1) := by decide +kernel
theorem d_M_putValue_45 : decode prog_13_method_53_code 45 = .ok (.aload_n 0, 1) := by decide +kernel
theorem d_M_putValue_46 : decode prog_13_method_53_code 46 = .ok (.getfield 42, 3) := by decide +kernel
theorem d_M_putValue_49 : decode prog_13_method_53_code 49 = .ok (.iload_n 1, 1) := by decide +kernel
theorem d_M_putValue_50 : decode prog_13_method_53_code 50 = .ok (.laload, 1) := by decide +kernel
theorem d_M_putValue_51 : decode prog_13_method_53_code 51 = .ok (.lconst 1, 1) := by decide +kernel
theorem d_M_putValue_52 : decode prog_13_method_53_code 52 = .ok (.lcmp, 1) := by decide +kernel
theorem d_M_putValue_53 : decode prog_13_method_53_code 53 = .ok (.ifCond .ne 9, 3) := by decide +kernel
theorem d_M_putValue_56 : decode prog_13_method_53_code 56 = .ok (.ldc2_w 203, 3) := by decide +kernel
theorem d_M_putValue_59 : decode prog_13_method_53_code 59 = .ok (.goto 6, 3) := by decide +kernel
theorem d_M_putValue_62 : decode prog_13_method_53_code 62 = .ok (.ldc2_w 205, 3) := by decide +kernel
theorem d_M_putValue_65 : decode prog_13_method_53_code 65 = .ok (.invokevirtual 256, 3) := by decide +kernel
theorem d_M_putValue_68 : decode prog_13_method_53_code 68 = .ok (.goto 13, 3) := by decide +kernel
theorem d_M_putValue_71 : decode prog_13_method_53_code 71 = .ok (.aload_n 0, 1) := by decide +kernel
theorem d_M_putValue_72 : decode prog_13_method_53_code 72 = .ok (.aload_n 0, 1) := by decide +kernel
theorem d_M_putValue_73 : decode prog_13_method_53_code 73 = .ok (.getfield 42, 3) := by decide +kernel
theorem d_M_putValue_76 : decode prog_13_method_53_code 76 = .ok (.iload_n 1, 1) := by decide +kernel
theorem d_M_putValue_77 : decode prog_13_method_53_code 77 = .ok (.laload, 1) := by decide +kernel
theorem d_M_putValue_78 : decode prog_13_method_53_code 78 = .ok (.invokevirtual 260, 3) := by decide +kernel
theorem d_M_putValue_81 : decode prog_13_method_53_code 81 = .ok (.return_, 1) := by decide +kernel
theorem d_M_putText_0 : decode prog_13_method_51_code 0 = .ok (.aload_n 0, 1) := by decide +kernel
theorem d_M_putText_1 : decode prog_13_method_51_code 1 = .ok (.bipush 39, 2) := by decide +kernel
theorem d_M_putText_3 : decode prog_13_method_51_code 3 = .ok (.invokevirtual 238, 3) := by decide +kernel
theorem d_M_putText_6 : decode prog_13_method_51_code 6 = .ok (.iconst 0, 1) := by decide +kernel
theorem d_M_putText_7 : decode prog_13_method_51_code 7 = .ok (.istore_n 2, 1) := by decide +kernel
theorem d_M_putText_8 : decode prog_13_method_51_code 8 = .ok (.iload_n 2, 1) := by decide +kernel
theorem d_M_putText_9 : decode prog_13_method_51_code 9 = .ok (.aload_n 0, 1) := by decide +kernel
theorem d_M_putText_10 : decode prog_13_method_51_code 10 = .ok (.getfield 39, 3) := by decide +kernel
theorem d_M_putText_13 : decode prog_13_method_51_code 13 = .ok (.iload_n 1, 1) := by decide +kernel
theorem d_M_putText_14 : decode prog_13_method_51_code 14 = .ok (.iaload, 1) := by decide +kernel
theorem d_M_putText_15 : decode prog_13_method_51_code 15 = .ok (.if_icmp .ge 89, 3) := by decide +kernel
theorem d_M_putText_18 : decode prog_13_method_51_code 18 = .ok (.aload_n 0, 1) := by decide +kernel
theorem d_M_putText_19 : decode prog_13_method_51_code 19 = .ok (.getfield 50, 3) := by decide +kernel
theorem d_M_putText_22 : decode prog_13_method_51_code 22 = .ok (.aload_n 0, 1) := by decide +kernel
theorem d_M_putText_23 : decode prog_13_method_51_code 23 = .ok (.getfield 36, 3) := by decide +kernel
theorem d_M_putText_26 : decode prog_13_method_51_code 26 = .ok (.iload_n 1, 1) := by decide +kernel
theorem d_M_putText_27 : decode prog_13_method_51_code 27 = .ok (.iaload, 1) := by decide +kernel
theorem d_M_putText_28 : decode prog_13_method_51_code 28 = .ok (.iload_n 2, 1) := by decide +kernel
theorem d_M_putText_29 : decode prog_13_method_51_code 29 = .ok (.iadd, 1) := by decide +kernel
theorem d_M_putText_30 : decode prog_13_method_51_code 30 = .ok (.iaload, 1) := by decide +kernel
theorem d_M_putText_31 : decode prog_13_method_51_code 31 = .ok (.istore_n 3, 1) := by decide +kernel
theorem d_M_putText_32 : decode prog_13_method_51_code 32 = .ok (.iload_n 3, 1) := by decide +kernel
theorem d_M_putText_33 : decode prog_13_method_51_code 33 = .ok (.bipush 32, 2) := by decide +kernel
theorem d_M_putText_35 : decode prog_13_method_51_code 35 = .ok (.if_icmp .lt 9, 3) := by decide +kernel
theorem d_M_putText_38 : decode prog_13_method_51_code 38 = .ok (.iload_n 3, 1) := by decide +kernel
theorem d_M_putText_39 : decode prog_13_method_51_code 39 = .ok (.bipush 126, 2) := by decide +kernel
theorem d_M_putText_41 : decode prog_13_method_51_code 41 = .ok (.if_icmp .le 34, 3) := by decide +kernel
theorem d_M_putText_44 : decode prog_13_method_51_code 44 = .ok (.aload_n 0, 1) := by decide +kernel
theorem d_M_putText_45 : decode prog_13_method_51_code 45 = .ok (.bipush 92, 2) := by decide +kernel
theorem d_M_putText_47 : decode prog_13_method_51_code 47 = .ok (.invokevirtual 238, 3) := by decide +kernel
theorem d_M_putText_50 : decode prog_13_method_51_code 50 = .ok (.aload_n 0, 1) := by decide +kernel
theorem d_M_putText_51 : decode prog_13_method_51_code 51 = .ok (.bipush 120, 2) := by decide +kernel
theorem d_M_putText_53 : decode prog_13_method_51_code 53 = .ok (.invokevirtual 238, 3) := by decide +kernel
theorem d_M_putText_56 : decode prog_13_method_51_code 56 = .ok (.aload_n 0, 1) := by decide +kernel
theorem d_M_putText_57 : decode prog_13_method_51_code 57 = .ok (.iload_n 3, 1) := by decide +kernel
theorem d_M_putText_58 : decode prog_13_method_51_code 58 = .ok (.bipush 16, 2) := by decide +kernel
theorem d_M_putText_60 : decode prog_13_method_51_code 60 = .ok (.idiv, 1) := by decide +kernel
theorem d_M_putText_61 : decode prog_13_method_51_code 61 = .ok (.invokevirtual 245, 3) := by decide +kernel
theorem d_M_putText_64 : decode prog_13_method_51_code 64 = .ok (.aload_n 0, 1) := by decide +kernel
theorem d_M_putText_65 : decode prog_13_method_51_code 65 = .ok (.iload_n 3, 1) := by decide +kernel
theorem d_M_putText_66 : decode prog_13_method_51_code 66 = .ok (.bipush 16, 2) := by decide +kernel
theorem d_M_putText_68 : decode prog_13_method_51_code 68 = .ok (.irem, 1) := by decide +kernel
theorem d_M_putText_69 : decode prog_13_method_51_code 69 = .ok (.invokevirtual 245, 3) := by decide +kernel
theorem d_M_putText_72 : decode prog_13_method_51_code 72 = .ok (.goto 26, 3) := by decide +kernel
theorem d_M_putText_75 : decode prog_13_method_51_code 75 = .ok (.iload_n 3, 1) := by decide +kernel
theorem d_M_putText_76 : decode prog_13_method_51_code 76 = .ok (.bipush 39, 2) := by decide +kernel
theorem d_M_putText_78 : decode prog_13_method_51_code 78 = .ok (.if_icmp .eq 9, 3) := by decide +kernel
theorem d_M_putText_81 : decode prog_13_method_51_code 81 = .ok (.iload_n 3, 1) := by decide +kernel
theorem d_M_putText_82 : decode prog_13_method_51_code 82 = .ok (.bipush 92, 2) := by decide +kernel
theorem d_M_putText_84 : decode prog_13_method_51_code 84 = .ok (.if_icmp .ne 9, 3) := by decide +kernel
theorem d_M_putText_87 : decode prog_13_method_51_code 87 = .ok (.aload_n 0, 1) := by decide +kernel
theorem d_M_putText_88 : decode prog_13_method_51_code 88 = .ok (.bipush 92, 2) := by decide +kernel
theorem d_M_putText_90 : decode prog_13_method_51_code 90 = .ok (.invokevirtual 238, 3) := by decide +kernel
theorem d_M_putText_93 : decode prog_13_method_51_code 93 = .ok (.aload_n 0, 1) := by decide +kernel
theorem d_M_putText_94 : decode prog_13_method_51_code 94 = .ok (.iload_n 3, 1) := by decide +kernel
theorem d_M_putText_95 : decode prog_13_method_51_code 95 = .ok (.invokevirtual 238, 3) := by decide +kernel
theorem d_M_putText_98 : decode prog_13_method_51_code 98 = .ok (.iinc 2 1, 3) := by decide +kernel
theorem d_M_putText_101 : decode prog_13_method_51_code 101 = .ok (.goto (-93), 3) := by decide +kernel
theorem d_M_putText_104 : decode prog_13_method_51_code 104 = .ok (.aload_n 0, 1) := by decide +kernel
theorem d_M_putText_105 : decode prog_13_method_51_code 105 = .ok (.bipush 39, 2) := by decide +kernel
theorem d_M_putText_107 : decode prog_13_method_51_code 107 = .ok (.invokevirtual 238, 3) := by decide +kernel
theorem d_M_putText_110 : decode prog_13_method_51_code 110 = .ok (.return_, 1) := by decide +kernel
theorem d_M_putHex_0 : decode prog_13_method_50_code 0 = .ok (.aload_n 0, 1) := by decide +kernel
theorem d_M_putHex_1 : decode prog_13_method_50_code 1 = .ok (.iload_n 1, 1) := by decide +kernel
theorem d_M_putHex_2 : decode prog_13_method_50_code 2 = .ok (.bipush 10, 2) := by decide +kernel
theorem d_M_putHex_4 : decode prog_13_method_50_code 4 = .ok (.if_icmp .ge 10, 3) := by decide +kernel
theorem d_M_putHex_7 : decode prog_13_method_50_code 7 = .ok (.bipush 48, 2) := by decide +kernel
theorem d_M_putHex_9 : decode prog_13_method_50_code 9 = .ok (.iload_n 1, 1) := by decide +kernel
theorem d_M_putHex_10 : decode prog_13_method_50_code 10 = .ok (.iadd, 1) := by decide +kernel
theorem d_M_putHex_11 : decode prog_13_method_50_code 11 = .ok (.goto 10, 3) := by decide +kernel
theorem d_M_putHex_14 : decode prog_13_method_50_code 14 = .ok (.bipush 97, 2) := by decide +kernel
theorem d_M_putHex_16 : decode prog_13_method_50_code 16 = .ok (.iload_n 1, 1) := by decide +kernel
theorem d_M_putHex_17 : decode prog_13_method_50_code 17 = .ok (.iadd, 1) := by decide +kernel
theorem d_M_putHex_18 : decode prog_13_method_50_code 18 = .ok (.bipush 10, 2) := by decide +kernel
theorem d_M_putHex_20 : decode prog_13_method_50_code 20 = .ok (.isub, 1) := by decide +kernel
theorem d_M_putHex_21 : decode prog_13_method_50_code 21 = .ok (.invokevirtual 238, 3) := by decide +kernel
theorem d_M_putHex_24 : decode prog_13_method_50_code 24 = .ok (.return_, 1) := by decide +kernel
theorem d_M_putWord_0 : decode prog_13_method_52_code 0 = .ok (.bipush 56, 2) := by decide +kernel
theorem d_M_putWord_2 : decode prog_13_method_52_code 2 = .ok (.istore_n 3, 1) := by decide +kernel
theorem d_M_putWord_3 : decode prog_13_method_52_code 3 = .ok (.iload_n 3, 1) := by decide +kernel
theorem d_M_putWord_4 : decode prog_13_method_52_code 4 = .ok (.ifCond .lt 33, 3) := by decide +kernel
theorem d_M_putWord_7 : decode prog_13_method_52_code 7 = .ok (.lload_n 1, 1) := by decide +kernel
theorem d_M_putWord_8 : decode prog_13_method_52_code 8 = .ok (.iload_n 3, 1) := by decide +kernel
theorem d_M_putWord_9 : decode prog_13_method_52_code 9 = .ok (.lshr, 1) := by decide +kernel
theorem d_M_putWord_10 : decode prog_13_method_52_code 10 = .ok (.ldc2_w 248, 3) := by decide +kernel
theorem d_M_putWord_13 : decode prog_13_method_52_code 13 = .ok (.land, 1) := by decide +kernel
theorem d_M_putWord_14 : decode prog_13_method_52_code 14 = .ok (.lconst 0, 1) := by decide +kernel
theorem d_M_putWord_15 : decode prog_13_method_52_code 15 = .ok (.lcmp, 1) := by decide +kernel
theorem d_M_putWord_16 : decode prog_13_method_52_code 16 = .ok (.ifCond .eq 15, 3) := by decide +kernel
theorem d_M_putWord_19 : decode prog_13_method_52_code 19 = .ok (.aload_n 0, 1) := by decide +kernel
theorem d_M_putWord_20 : decode prog_13_method_52_code 20 = .ok (.lload_n 1, 1) := by decide +kernel
theorem d_M_putWord_21 : decode prog_13_method_52_code 21 = .ok (.iload_n 3, 1) := by decide +kernel
theorem d_M_putWord_22 : decode prog_13_method_52_code 22 = .ok (.lshr, 1) := by decide +kernel
theorem d_M_putWord_23 : decode prog_13_method_52_code 23 = .ok (.ldc2_w 248, 3) := by decide +kernel
theorem d_M_putWord_26 : decode prog_13_method_52_code 26 = .ok (.land, 1) := by decide +kernel
theorem d_M_putWord_27 : decode prog_13_method_52_code 27 = .ok (.l2i, 1) := by decide +kernel
theorem d_M_putWord_28 : decode prog_13_method_52_code 28 = .ok (.invokevirtual 238, 3) := by decide +kernel
theorem d_M_putWord_31 : decode prog_13_method_52_code 31 = .ok (.iinc 3 (-8), 3) := by decide +kernel
theorem d_M_putWord_34 : decode prog_13_method_52_code 34 = .ok (.goto (-31), 3) := by decide +kernel
theorem d_M_putWord_37 : decode prog_13_method_52_code 37 = .ok (.return_, 1) := by decide +kernel
theorem d_M_putNumber_0 : decode prog_13_method_49_code 0 = .ok (.lload_n 1, 1) := by decide +kernel
theorem d_M_putNumber_1 : decode prog_13_method_49_code 1 = .ok (.lconst 0, 1) := by decide +kernel
theorem d_M_putNumber_2 : decode prog_13_method_49_code 2 = .ok (.lcmp, 1) := by decide +kernel
theorem d_M_putNumber_3 : decode prog_13_method_49_code 3 = .ok (.ifCond .ge 9, 3) := by decide +kernel
theorem d_M_putNumber_6 : decode prog_13_method_49_code 6 = .ok (.aload_n 0, 1) := by decide +kernel
theorem d_M_putNumber_7 : decode prog_13_method_49_code 7 = .ok (.bipush 45, 2) := by decide +kernel
theorem d_M_putNumber_9 : decode prog_13_method_49_code 9 = .ok (.invokevirtual 238, 3) := by decide +kernel
theorem d_M_putNumber_12 : decode prog_13_method_49_code 12 = .ok (.lconst 1, 1) := by decide +kernel
theorem d_M_putNumber_13 : decode prog_13_method_49_code 13 = .ok (.lstore_n 3, 1) := by decide +kernel
theorem d_M_putNumber_14 : decode prog_13_method_49_code 14 = .ok (.lload_n 1, 1) := by decide +kernel
theorem d_M_putNumber_15 : decode prog_13_method_49_code 15 = .ok (.lload_n 3, 1) := by decide +kernel
theorem d_M_putNumber_16 : decode prog_13_method_49_code 16 = .ok (.ldiv, 1) := by decide +kernel
theorem d_M_putNumber_17 : decode prog_13_method_49_code 17 = .ok (.ldc2_w 241, 3) := by decide +kernel
theorem d_M_putNumber_20 : decode prog_13_method_49_code 20 = .ok (.lcmp, 1) := by decide +kernel
theorem d_M_putNumber_21 : decode prog_13_method_49_code 21 = .ok (.ifCond .gt 13, 3) := by decide +kernel
theorem d_M_putNumber_24 : decode prog_13_method_49_code 24 = .ok (.lload_n 1, 1) := by decide +kernel
theorem d_M_putNumber_25 : decode prog_13_method_49_code 25 = .ok (.lload_n 3, 1) := by decide +kernel
theorem d_M_putNumber_26 : decode prog_13_method_49_code 26 = .ok (.ldiv, 1) := by decide +kernel
theorem d_M_putNumber_27 : decode prog_13_method_49_code 27 = .ok (.ldc2_w 243, 3) := by decide +kernel
theorem d_M_putNumber_30 : decode prog_13_method_49_code 30 = .ok (.lcmp, 1) := by decide +kernel
theorem d_M_putNumber_31 : decode prog_13_method_49_code 31 = .ok (.ifCond .ge 12, 3) := by decide +kernel
theorem d_M_putNumber_34 : decode prog_13_method_49_code 34 = .ok (.lload_n 3, 1) := by decide +kernel
theorem d_M_putNumber_35 : decode prog_13_method_49_code 35 = .ok (.ldc2_w 187, 3) := by decide +kernel
theorem d_M_putNumber_38 : decode prog_13_method_49_code 38 = .ok (.lmul, 1) := by decide +kernel
theorem d_M_putNumber_39 : decode prog_13_method_49_code 39 = .ok (.lstore_n 3, 1) := by decide +kernel
theorem d_M_putNumber_40 : decode prog_13_method_49_code 40 = .ok (.goto (-26), 3) := by decide +kernel
theorem d_M_putNumber_43 : decode prog_13_method_49_code 43 = .ok (.lload_n 3, 1) := by decide +kernel
theorem d_M_putNumber_44 : decode prog_13_method_49_code 44 = .ok (.lstore 5, 2) := by decide +kernel
theorem d_M_putNumber_46 : decode prog_13_method_49_code 46 = .ok (.lload 5, 2) := by decide +kernel
theorem d_M_putNumber_48 : decode prog_13_method_49_code 48 = .ok (.lconst 0, 1) := by decide +kernel
theorem d_M_putNumber_49 : decode prog_13_method_49_code 49 = .ok (.lcmp, 1) := by decide +kernel
theorem d_M_putNumber_50 : decode prog_13_method_49_code 50 = .ok (.ifCond .le 47, 3) := by decide +kernel
theorem d_M_putNumber_53 : decode prog_13_method_49_code 53 = .ok (.lload_n 1, 1) := by decide +kernel
theorem d_M_putNumber_54 : decode prog_13_method_49_code 54 = .ok (.lload 5, 2) := by decide +kernel
theorem d_M_putNumber_56 : decode prog_13_method_49_code 56 = .ok (.ldiv, 1) := by decide +kernel
theorem d_M_putNumber_57 : decode prog_13_method_49_code 57 = .ok (.ldc2_w 187, 3) := by decide +kernel
theorem d_M_putNumber_60 : decode prog_13_method_49_code 60 = .ok (.lrem, 1) := by decide +kernel
theorem d_M_putNumber_61 : decode prog_13_method_49_code 61 = .ok (.lstore 7, 2) := by decide +kernel
theorem d_M_putNumber_63 : decode prog_13_method_49_code 63 = .ok (.aload_n 0, 1) := by decide +kernel
theorem d_M_putNumber_64 : decode prog_13_method_49_code 64 = .ok (.bipush 48, 2) := by decide +kernel
theorem d_M_putNumber_66 : decode prog_13_method_49_code 66 = .ok (.lload 7, 2) := by decide +kernel
theorem d_M_putNumber_68 : decode prog_13_method_49_code 68 = .ok (.lconst 0, 1) := by decide +kernel
theorem d_M_putNumber_69 : decode prog_13_method_49_code 69 = .ok (.lcmp, 1) := by decide +kernel
theorem d_M_putNumber_70 : decode prog_13_method_49_code 70 = .ok (.ifCond .ge 9, 3) := by decide +kernel
theorem d_M_putNumber_73 : decode prog_13_method_49_code 73 = .ok (.lload 7, 2) := by decide +kernel
theorem d_M_putNumber_75 : decode prog_13_method_49_code 75 = .ok (.lneg, 1) := by decide +kernel
theorem d_M_putNumber_76 : decode prog_13_method_49_code 76 = .ok (.goto 5, 3) := by decide +kernel
theorem d_M_putNumber_79 : decode prog_13_method_49_code 79 = .ok (.lload 7, 2) := by decide +kernel
theorem d_M_putNumber_81 : decode prog_13_method_49_code 81 = .ok (.l2i, 1) := by decide +kernel
theorem d_M_putNumber_82 : decode prog_13_method_49_code 82 = .ok (.iadd, 1) := by decide +kernel
theorem d_M_putNumber_83 : decode prog_13_method_49_code 83 = .ok (.invokevirtual 238, 3) := by decide +kernel
theorem d_M_putNumber_86 : decode prog_13_method_49_code 86 = .ok (.lload 5, 2) := by decide +kernel
theorem d_M_putNumber_88 : decode prog_13_method_49_code 88 = .ok (.ldc2_w 187, 3) := by decide +kernel
theorem d_M_putNumber_91 : decode prog_13_method_49_code 91 = .ok (.ldiv, 1) := by decide +kernel
theorem d_M_putNumber_92 : decode prog_13_method_49_code 92 = .ok (.lstore 5, 2) := by decide +kernel
theorem d_M_putNumber_94 : decode prog_13_method_49_code 94 = .ok (.goto (-48), 3) := by decide +kernel
theorem d_M_putNumber_97 : decode prog_13_method_49_code 97 = .ok (.return_, 1) := by decide +kernel
theorem d_M_output_0 : decode prog_13_method_56_code 0 = .ok (.aload_n 0, 1) := by decide +kernel
theorem d_M_output_1 : decode prog_13_method_56_code 1 = .ok (.iconst 0, 1) := by decide +kernel
theorem d_M_output_2 : decode prog_13_method_56_code 2 = .ok (.putfield 75, 3) := by decide +kernel
theorem d_M_output_5 : decode prog_13_method_56_code 5 = .ok (.iload_n 1, 1) := by decide +kernel
theorem d_M_output_6 : decode prog_13_method_56_code 6 = .ok (.ifCond .lt 11, 3) := by decide +kernel
theorem d_M_output_9 : decode prog_13_method_56_code 9 = .ok (.iload_n 1, 1) := by decide +kernel
theorem d_M_output_10 : decode prog_13_method_56_code 10 = .ok (.aload_n 0, 1) := by decide +kernel
theorem d_M_output_11 : decode prog_13_method_56_code 11 = .ok (.getfield 235, 3) := by decide +kernel
theorem d_M_output_14 : decode prog_13_method_56_code 14 = .ok (.if_icmp .lt 7, 3) := by decide +kernel
theorem d_M_output_17 : decode prog_13_method_56_code 17 = .ok (.iconst (-1), 1) := by decide +kernel
theorem d_M_output_18 : decode prog_13_method_56_code 18 = .ok (.goto 9, 3) := by decide +kernel
theorem d_M_output_21 : decode prog_13_method_56_code 21 = .ok (.aload_n 0, 1) := by decide +kernel
theorem d_M_output_22 : decode prog_13_method_56_code 22 = .ok (.getfield 72, 3) := by decide +kernel
theorem d_M_output_25 : decode prog_13_method_56_code 25 = .ok (.iload_n 1, 1) := by decide +kernel
theorem d_M_output_26 : decode prog_13_method_56_code 26 = .ok (.iaload, 1) := by decide +kernel
theorem d_M_output_27 : decode prog_13_method_56_code 27 = .ok (.ireturn, 1) := by decide +kernel
