theorem d_S_keep_80 : decode prog_7_method_4_code 80 = .ok (.getfield 17, 3) := by decide +kernel
theorem d_S_keep_83 : decode prog_7_method_4_code 83 = .ok (.sipush 8704, 3) := by decide +kernel
theorem d_S_keep_86 : decode prog_7_method_4_code 86 = .ok (.if_icmp .ge 10, 3) := by decide +kernel
theorem d_S_keep_89 : decode prog_7_method_4_code 89 = .ok (.aload_n 0, 1) := by decide +kernel
theorem d_S_keep_90 : decode prog_7_method_4_code 90 = .ok (.invokevirtual 65, 3) := by decide +kernel
theorem d_S_keep_93 : decode prog_7_method_4_code 93 = .ok (.ifCond .ne 5, 3) := by decide +kernel
theorem d_S_keep_96 : decode prog_7_method_4_code 96 = .ok (.aconst_null, 1) := by decide +kernel
theorem d_S_keep_97 : decode prog_7_method_4_code 97 = .ok (.areturn, 1) := by decide +kernel
theorem d_S_keep_98 : decode prog_7_method_4_code 98 = .ok (.aload_n 0, 1) := by decide +kernel
theorem d_S_keep_99 : decode prog_7_method_4_code 99 = .ok (.getfield 11, 3) := by decide +kernel
theorem d_S_keep_102 : decode prog_7_method_4_code 102 = .ok (.iload 6, 2) := by decide +kernel
theorem d_S_keep_104 : decode prog_7_method_4_code 104 = .ok (.new 9, 3) := by decide +kernel
theorem d_S_keep_107 : decode prog_7_method_4_code 107 = .ok (.dup, 1) := by decide +kernel
theorem d_S_keep_108 : decode prog_7_method_4_code 108 = .ok (.aload_n 1, 1) := by decide +kernel
theorem d_S_keep_109 : decode prog_7_method_4_code 109 = .ok (.iload_n 2, 1) := by decide +kernel
theorem d_S_keep_110 : decode prog_7_method_4_code 110 = .ok (.iload_n 3, 1) := by decide +kernel
theorem d_S_keep_111 : decode prog_7_method_4_code 111 = .ok (.iload 4, 2) := by decide +kernel
theorem d_S_keep_113 : decode prog_7_method_4_code 113 = .ok (.iload 5, 2) := by decide +kernel
theorem d_S_keep_115 : decode prog_7_method_4_code 115 = .ok (.aload_n 0, 1) := by decide +kernel
theorem d_S_keep_116 : decode prog_7_method_4_code 116 = .ok (.getfield 11, 3) := by decide +kernel
theorem d_S_keep_119 : decode prog_7_method_4_code 119 = .ok (.iload 6, 2) := by decide +kernel
theorem d_S_keep_121 : decode prog_7_method_4_code 121 = .ok (.aaload, 1) := by decide +kernel
theorem d_S_keep_122 : decode prog_7_method_4_code 122 = .ok (.invokespecial 69, 3) := by decide +kernel
theorem d_S_keep_125 : decode prog_7_method_4_code 125 = .ok (.aastore, 1) := by decide +kernel
theorem d_S_keep_126 : decode prog_7_method_4_code 126 = .ok (.aload_n 0, 1) := by decide +kernel
theorem d_S_keep_127 : decode prog_7_method_4_code 127 = .ok (.dup, 1) := by decide +kernel
theorem d_S_keep_128 : decode prog_7_method_4_code 128 = .ok (.getfield 17, 3) := by decide +kernel
theorem d_S_keep_131 : decode prog_7_method_4_code 131 = .ok (.iconst 1, 1) := by decide +kernel
theorem d_S_keep_132 : decode prog_7_method_4_code 132 = .ok (.iadd, 1) := by decide +kernel
theorem d_S_keep_133 : decode prog_7_method_4_code 133 = .ok (.putfield 17, 3) := by decide +kernel
theorem d_S_keep_136 : decode prog_7_method_4_code 136 = .ok (.aload_n 0, 1) := by decide +kernel
theorem d_S_keep_137 : decode prog_7_method_4_code 137 = .ok (.getfield 11, 3) := by decide +kernel
theorem d_S_keep_140 : decode prog_7_method_4_code 140 = .ok (.iload 6, 2) := by decide +kernel
theorem d_S_keep_142 : decode prog_7_method_4_code 142 = .ok (.aaload, 1) := by decide +kernel
theorem d_S_keep_143 : decode prog_7_method_4_code 143 = .ok (.areturn, 1) := by decide +kernel
theorem d_R_hashOf_0 : decode prog_6_method_4_code 0 = .ok (.bipush 6, 2) := by decide +kernel
theorem d_R_hashOf_2 : decode prog_6_method_4_code 2 = .ok (.iload_n 1, 1) := by decide +kernel
theorem d_R_hashOf_3 : decode prog_6_method_4_code 3 = .ok (.invokestatic 28, 3) := by decide +kernel
theorem d_R_hashOf_6 : decode prog_6_method_4_code 6 = .ok (.istore 4, 2) := by decide +kernel
theorem d_R_hashOf_8 : decode prog_6_method_4_code 8 = .ok (.iload_n 2, 1) := by decide +kernel
theorem d_R_hashOf_9 : decode prog_6_method_4_code 9 = .ok (.istore 5, 2) := by decide +kernel
theorem d_R_hashOf_11 : decode prog_6_method_4_code 11 = .ok (.iload 5, 2) := by decide +kernel
theorem d_R_hashOf_13 : decode prog_6_method_4_code 13 = .ok (.iload_n 3, 1) := by decide +kernel
theorem d_R_hashOf_14 : decode prog_6_method_4_code 14 = .ok (.if_icmp .ge 33, 3) := by decide +kernel
theorem d_R_hashOf_17 : decode prog_6_method_4_code 17 = .ok (.iload 4, 2) := by decide +kernel
theorem d_R_hashOf_19 : decode prog_6_method_4_code 19 = .ok (.aload_n 0, 1) := by decide +kernel
theorem d_R_hashOf_20 : decode prog_6_method_4_code 20 = .ok (.getfield 9, 3) := by decide +kernel
theorem d_R_hashOf_23 : decode prog_6_method_4_code 23 = .ok (.iload 5, 2) := by decide +kernel
theorem d_R_hashOf_25 : decode prog_6_method_4_code 25 = .ok (.iaload, 1) := by decide +kernel
theorem d_R_hashOf_26 : decode prog_6_method_4_code 26 = .ok (.invokestatic 28, 3) := by decide +kernel
theorem d_R_hashOf_29 : decode prog_6_method_4_code 29 = .ok (.aload_n 0, 1) := by decide +kernel
theorem d_R_hashOf_30 : decode prog_6_method_4_code 30 = .ok (.getfield 15, 3) := by decide +kernel
theorem d_R_hashOf_33 : decode prog_6_method_4_code 33 = .ok (.iload 5, 2) := by decide +kernel
theorem d_R_hashOf_35 : decode prog_6_method_4_code 35 = .ok (.iaload, 1) := by decide +kernel
theorem d_R_hashOf_36 : decode prog_6_method_4_code 36 = .ok (.invokestatic 28, 3) := by decide +kernel
theorem d_R_hashOf_39 : decode prog_6_method_4_code 39 = .ok (.istore 4, 2) := by decide +kernel
theorem d_R_hashOf_41 : decode prog_6_method_4_code 41 = .ok (.iinc 5 1, 3) := by decide +kernel
theorem d_R_hashOf_44 : decode prog_6_method_4_code 44 = .ok (.goto (-33), 3) := by decide +kernel
theorem d_R_hashOf_47 : decode prog_6_method_4_code 47 = .ok (.iload 4, 2) := by decide +kernel
theorem d_R_hashOf_49 : decode prog_6_method_4_code 49 = .ok (.ireturn, 1) := by decide +kernel
theorem d_R_matches_0 : decode prog_6_method_5_code 0 = .ok (.aload_n 1, 1) := by decide +kernel
theorem d_R_matches_1 : decode prog_6_method_5_code 1 = .ok (.getfield 32, 3) := by decide +kernel
theorem d_R_matches_4 : decode prog_6_method_5_code 4 = .ok (.arraylength, 1) := by decide +kernel
theorem d_R_matches_5 : decode prog_6_method_5_code 5 = .ok (.iload_n 3, 1) := by decide +kernel
theorem d_R_matches_6 : decode prog_6_method_5_code 6 = .ok (.iload_n 2, 1) := by decide +kernel
theorem d_R_matches_7 : decode prog_6_method_5_code 7 = .ok (.isub, 1) := by decide +kernel
theorem d_R_matches_8 : decode prog_6_method_5_code 8 = .ok (.if_icmp .eq 5, 3) := by decide +kernel
theorem d_R_matches_11 : decode prog_6_method_5_code 11 = .ok (.iconst 0, 1) := by decide +kernel
theorem d_R_matches_12 : decode prog_6_method_5_code 12 = .ok (.ireturn, 1) := by decide +kernel
theorem d_R_matches_13 : decode prog_6_method_5_code 13 = .ok (.iload_n 2, 1) := by decide +kernel
theorem d_R_matches_14 : decode prog_6_method_5_code 14 = .ok (.istore 4, 2) := by decide +kernel
theorem d_R_matches_16 : decode prog_6_method_5_code 16 = .ok (.iload 4, 2) := by decide +kernel
theorem d_R_matches_18 : decode prog_6_method_5_code 18 = .ok (.iload_n 3, 1) := by decide +kernel
theorem d_R_matches_19 : decode prog_6_method_5_code 19 = .ok (.if_icmp .ge 68, 3) := by decide +kernel
theorem d_R_matches_22 : decode prog_6_method_5_code 22 = .ok (.iload 4, 2) := by decide +kernel
theorem d_R_matches_24 : decode prog_6_method_5_code 24 = .ok (.iload_n 2, 1) := by decide +kernel
theorem d_R_matches_25 : decode prog_6_method_5_code 25 = .ok (.isub, 1) := by decide +kernel
theorem d_R_matches_26 : decode prog_6_method_5_code 26 = .ok (.istore 5, 2) := by decide +kernel
theorem d_R_matches_28 : decode prog_6_method_5_code 28 = .ok (.aload_n 1, 1) := by decide +kernel
theorem d_R_matches_29 : decode prog_6_method_5_code 29 = .ok (.getfield 32, 3) := by decide +kernel
theorem d_R_matches_32 : decode prog_6_method_5_code 32 = .ok (.iload 5, 2) := by decide +kernel
theorem d_R_matches_34 : decode prog_6_method_5_code 34 = .ok (.iaload, 1) := by decide +kernel
theorem d_R_matches_35 : decode prog_6_method_5_code 35 = .ok (.aload_n 0, 1) := by decide +kernel
theorem d_R_matches_36 : decode prog_6_method_5_code 36 = .ok (.getfield 9, 3) := by decide +kernel
theorem d_R_matches_39 : decode prog_6_method_5_code 39 = .ok (.iload 4, 2) := by decide +kernel
theorem d_R_matches_41 : decode prog_6_method_5_code 41 = .ok (.iaload, 1) := by decide +kernel
theorem d_R_matches_42 : decode prog_6_method_5_code 42 = .ok (.if_icmp .ne 37, 3) := by decide +kernel
theorem d_R_matches_45 : decode prog_6_method_5_code 45 = .ok (.aload_n 1, 1) := by decide +kernel
theorem d_R_matches_46 : decode prog_6_method_5_code 46 = .ok (.getfield 33, 3) := by decide +kernel
theorem d_R_matches_49 : decode prog_6_method_5_code 49 = .ok (.iload 5, 2) := by decide +kernel
theorem d_R_matches_51 : decode prog_6_method_5_code 51 = .ok (.iaload, 1) := by decide +kernel
theorem d_R_matches_52 : decode prog_6_method_5_code 52 = .ok (.aload_n 0, 1) := by decide +kernel
theorem d_R_matches_53 : decode prog_6_method_5_code 53 = .ok (.getfield 15, 3) := by decide +kernel
theorem d_R_matches_56 : decode prog_6_method_5_code 56 = .ok (.iload 4, 2) := by decide +kernel
theorem d_R_matches_58 : decode prog_6_method_5_code 58 = .ok (.iaload, 1) := by decide +kernel
theorem d_R_matches_59 : decode prog_6_method_5_code 59 = .ok (.if_icmp .ne 20, 3) := by decide +kernel
theorem d_R_matches_62 : decode prog_6_method_5_code 62 = .ok (.aload_n 1, 1) := by decide +kernel
theorem d_R_matches_63 : decode prog_6_method_5_code 63 = .ok (.getfield 34, 3) := by decide +kernel
theorem d_R_matches_66 : decode prog_6_method_5_code 66 = .ok (.iload 5, 2) := by decide +kernel
theorem d_R_matches_68 : decode prog_6_method_5_code 68 = .ok (.aaload, 1) := by decide +kernel
theorem d_R_matches_69 : decode prog_6_method_5_code 69 = .ok (.aload_n 0, 1) := by decide +kernel
theorem d_R_matches_70 : decode prog_6_method_5_code 70 = .ok (.getfield 20, 3) := by decide +kernel
theorem d_R_matches_73 : decode prog_6_method_5_code 73 = .ok (.iload 4, 2) := by decide +kernel
theorem d_R_matches_75 : decode prog_6_method_5_code 75 = .ok (.aaload, 1) := by decide +kernel
theorem d_R_matches_76 : decode prog_6_method_5_code 76 = .ok (.if_acmp .eq 5, 3) := by decide +kernel
theorem d_R_matches_79 : decode prog_6_method_5_code 79 = .ok (.iconst 0, 1) := by decide +kernel
theorem d_R_matches_80 : decode prog_6_method_5_code 80 = .ok (.ireturn, 1) := by decide +kernel
theorem d_R_matches_81 : decode prog_6_method_5_code 81 = .ok (.iinc 4 1, 3) := by decide +kernel
theorem d_R_matches_84 : decode prog_6_method_5_code 84 = .ok (.goto (-68), 3) := by decide +kernel
theorem d_R_matches_87 : decode prog_6_method_5_code 87 = .ok (.iconst 1, 1) := by decide +kernel
theorem d_R_matches_88 : decode prog_6_method_5_code 88 = .ok (.ireturn, 1) := by decide +kernel
theorem d_S_write_0 : decode prog_7_method_5_code 0 = .ok (.aload_n 0, 1) := by decide +kernel
theorem d_S_write_1 : decode prog_7_method_5_code 1 = .ok (.getfield 21, 3) := by decide +kernel
theorem d_S_write_4 : decode prog_7_method_5_code 4 = .ok (.ifCond .ne 5, 3) := by decide +kernel
theorem d_S_write_7 : decode prog_7_method_5_code 7 = .ok (.iconst 1, 1) := by decide +kernel
theorem d_S_write_8 : decode prog_7_method_5_code 8 = .ok (.ireturn, 1) := by decide +kernel
theorem d_S_write_9 : decode prog_7_method_5_code 9 = .ok (.aload_n 0, 1) := by decide +kernel
theorem d_S_write_10 : decode prog_7_method_5_code 10 = .ok (.dup, 1) := by decide +kernel
theorem d_S_write_11 : decode prog_7_method_5_code 11 = .ok (.getfield 21, 3) := by decide +kernel
theorem d_S_write_14 : decode prog_7_method_5_code 14 = .ok (.iconst 1, 1) := by decide +kernel
theorem d_S_write_15 : decode prog_7_method_5_code 15 = .ok (.isub, 1) := by decide +kernel
theorem d_S_write_16 : decode prog_7_method_5_code 16 = .ok (.putfield 21, 3) := by decide +kernel
theorem d_S_write_19 : decode prog_7_method_5_code 19 = .ok (.aload_n 0, 1) := by decide +kernel
theorem d_S_write_20 : decode prog_7_method_5_code 20 = .ok (.getfield 21, 3) := by decide +kernel
theorem d_S_write_23 : decode prog_7_method_5_code 23 = .ok (.ifCond .le 7, 3) := by decide +kernel
theorem d_S_write_26 : decode prog_7_method_5_code 26 = .ok (.iconst 1, 1) := by decide +kernel
theorem d_S_write_27 : decode prog_7_method_5_code 27 = .ok (.goto 4, 3) := by decide +kernel
theorem d_S_write_30 : decode prog_7_method_5_code 30 = .ok (.iconst 0, 1) := by decide +kernel
theorem d_S_write_31 : decode prog_7_method_5_code 31 = .ok (.ireturn, 1) := by decide +kernel
theorem d_C_init_0 : decode prog_3_method_1_code 0 = .ok (.aload_n 0, 1) := by decide +kernel
theorem d_C_init_1 : decode prog_3_method_1_code 1 = .ok (.invokespecial 1, 3) := by decide +kernel
theorem d_C_init_4 : decode prog_3_method_1_code 4 = .ok (.aload_n 0, 1) := by decide +kernel
theorem d_C_init_5 : decode prog_3_method_1_code 5 = .ok (.iload_n 2, 1) := by decide +kernel
theorem d_C_init_6 : decode prog_3_method_1_code 6 = .ok (.putfield 7, 3) := by decide +kernel
theorem d_C_init_9 : decode prog_3_method_1_code 9 = .ok (.aload_n 0, 1) := by decide +kernel
theorem d_C_init_10 : decode prog_3_method_1_code 10 = .ok (.iload 5, 2) := by decide +kernel
theorem d_C_init_12 : decode prog_3_method_1_code 12 = .ok (.putfield 13, 3) := by decide +kernel
theorem d_C_init_15 : decode prog_3_method_1_code 15 = .ok (.aload_n 0, 1) := by decide +kernel
theorem d_C_init_16 : decode prog_3_method_1_code 16 = .ok (.aload 6, 2) := by decide +kernel
theorem d_C_init_18 : decode prog_3_method_1_code 18 = .ok (.putfield 16, 3) := by decide +kernel
theorem d_C_init_21 : decode prog_3_method_1_code 21 = .ok (.aload_n 0, 1) := by decide +kernel
theorem d_C_init_22 : decode prog_3_method_1_code 22 = .ok (.aload_n 1, 1) := by decide +kernel
theorem d_C_init_23 : decode prog_3_method_1_code 23 = .ok (.getfield 20, 3) := by decide +kernel
theorem d_C_init_26 : decode prog_3_method_1_code 26 = .ok (.iload_n 3, 1) := by decide +kernel
theorem d_C_init_27 : decode prog_3_method_1_code 27 = .ok (.iload 4, 2) := by decide +kernel
theorem d_C_init_29 : decode prog_3_method_1_code 29 = .ok (.invokestatic 26, 3) := by decide +kernel
theorem d_C_init_32 : decode prog_3_method_1_code 32 = .ok (.putfield 32, 3) := by decide +kernel
theorem d_C_init_35 : decode prog_3_method_1_code 35 = .ok (.aload_n 0, 1) := by decide +kernel
theorem d_C_init_36 : decode prog_3_method_1_code 36 = .ok (.aload_n 1, 1) := by decide +kernel
theorem d_C_init_37 : decode prog_3_method_1_code 37 = .ok (.getfield 33, 3) := by decide +kernel
theorem d_C_init_40 : decode prog_3_method_1_code 40 = .ok (.iload_n 3, 1) := by decide +kernel
theorem d_C_init_41 : decode prog_3_method_1_code 41 = .ok (.iload 4, 2) := by decide +kernel
theorem d_C_init_43 : decode prog_3_method_1_code 43 = .ok (.invokestatic 26, 3) := by decide +kernel
theorem d_C_init_46 : decode prog_3_method_1_code 46 = .ok (.putfield 36, 3) := by decide +kernel
theorem d_C_init_49 : decode prog_3_method_1_code 49 = .ok (.aload_n 0, 1) := by decide +kernel
theorem d_C_init_50 : decode prog_3_method_1_code 50 = .ok (.iload 4, 2) := by decide +kernel
theorem d_C_init_52 : decode prog_3_method_1_code 52 = .ok (.iload_n 3, 1) := by decide +kernel
theorem d_C_init_53 : decode prog_3_method_1_code 53 = .ok (.isub, 1) := by decide +kernel
theorem d_C_init_54 : decode prog_3_method_1_code 54 = .ok (.anewarray 8, 3) := by decide +kernel
theorem d_C_init_57 : decode prog_3_method_1_code 57 = .ok (.putfield 37, 3) := by decide +kernel
theorem d_C_init_60 : decode prog_3_method_1_code 60 = .ok (.iconst 0, 1) := by decide +kernel
theorem d_C_init_61 : decode prog_3_method_1_code 61 = .ok (.istore 7, 2) := by decide +kernel
theorem d_C_init_63 : decode prog_3_method_1_code 63 = .ok (.iload 7, 2) := by decide +kernel
theorem d_C_init_65 : decode prog_3_method_1_code 65 = .ok (.aload_n 0, 1) := by decide +kernel
theorem d_C_init_66 : decode prog_3_method_1_code 66 = .ok (.getfield 37, 3) := by decide +kernel
theorem d_C_init_69 : decode prog_3_method_1_code 69 = .ok (.arraylength, 1) := by decide +kernel
theorem d_C_init_70 : decode prog_3_method_1_code 70 = .ok (.if_icmp .ge 25, 3) := by decide +kernel
theorem d_C_init_73 : decode prog_3_method_1_code 73 = .ok (.aload_n 0, 1) := by decide +kernel
theorem d_C_init_74 : decode prog_3_method_1_code 74 = .ok (.getfield 37, 3) := by decide +kernel
theorem d_C_init_77 : decode prog_3_method_1_code 77 = .ok (.iload 7, 2) := by decide +kernel
theorem d_C_init_79 : decode prog_3_method_1_code 79 = .ok (.aload_n 1, 1) := by decide +kernel
theorem d_C_init_80 : decode prog_3_method_1_code 80 = .ok (.getfield 41, 3) := by decide +kernel
theorem d_C_init_83 : decode prog_3_method_1_code 83 = .ok (.iload_n 3, 1) := by decide +kernel
theorem d_C_init_84 : decode prog_3_method_1_code 84 = .ok (.iload 7, 2) := by decide +kernel
theorem d_C_init_86 : decode prog_3_method_1_code 86 = .ok (.iadd, 1) := by decide +kernel
theorem d_C_init_87 : decode prog_3_method_1_code 87 = .ok (.aaload, 1) := by decide +kernel
theorem d_C_init_88 : decode prog_3_method_1_code 88 = .ok (.aastore, 1) := by decide +kernel
theorem d_C_init_89 : decode prog_3_method_1_code 89 = .ok (.iinc 7 1, 3) := by decide +kernel
theorem d_C_init_92 : decode prog_3_method_1_code 92 = .ok (.goto (-29), 3) := by decide +kernel
theorem d_C_init_95 : decode prog_3_method_1_code 95 = .ok (.return_, 1) := by decide +kernel
theorem d_A_copyOfRange_0 : decode prog_26_method_136_code 0 = .ok (.iload_n 1, 1) := by decide +kernel
theorem d_A_copyOfRange_1 : decode prog_26_method_136_code 1 = .ok (.ifCond .ne 9, 3) := by decide +kernel
theorem d_A_copyOfRange_4 : decode prog_26_method_136_code 4 = .ok (.iload_n 2, 1) := by decide +kernel
theorem d_A_copyOfRange_5 : decode prog_26_method_136_code 5 = .ok (.aload_n 0, 1) := by decide +kernel
theorem d_A_copyOfRange_6 : decode prog_26_method_136_code 6 = .ok (.arraylength, 1) := by decide +kernel
theorem d_A_copyOfRange_7 : decode prog_26_method_136_code 7 = .ok (.if_icmp .eq 10, 3) := by decide +kernel
theorem d_A_copyOfRange_10 : decode prog_26_method_136_code 10 = .ok (.aload_n 0, 1) := by decide +kernel
theorem d_A_copyOfRange_11 : decode prog_26_method_136_code 11 = .ok (.iload_n 1, 1) := by decide +kernel
theorem d_A_copyOfRange_12 : decode prog_26_method_136_code 12 = .ok (.iload_n 2, 1) := by decide +kernel
theorem d_A_copyOfRange_13 : decode prog_26_method_136_code 13 = .ok (.invokestatic 351, 3) := by decide +kernel
theorem d_A_copyOfRange_16 : decode prog_26_method_136_code 16 = .ok (.areturn, 1) := by decide +kernel
theorem d_A_copyOfRange_17 : decode prog_26_method_136_code 17 = .ok (.aload_n 0, 1) := by decide +kernel
theorem d_A_copyOfRange_18 : decode prog_26_method_136_code 18 = .ok (.invokevirtual 316, 3) := by decide +kernel
theorem d_A_copyOfRange_21 : decode prog_26_method_136_code 21 = .ok (.checkcast 317, 3) := by decide +kernel
theorem d_A_copyOfRange_24 : decode prog_26_method_136_code 24 = .ok (.areturn, 1) := by decide +kernel
theorem d_R_top_0 : decode prog_6_method_3_code 0 = .ok (.aload_n 0, 1) := by decide +kernel
theorem d_R_top_1 : decode prog_6_method_3_code 1 = .ok (.getfield 24, 3) := by decide +kernel
theorem d_R_top_4 : decode prog_6_method_3_code 4 = .ok (.ifCond .ne 7, 3) := by decide +kernel
theorem d_R_top_7 : decode prog_6_method_3_code 7 = .ok (.aconst_null, 1) := by decide +kernel
theorem d_R_top_8 : decode prog_6_method_3_code 8 = .ok (.goto 9, 3) := by decide +kernel
theorem d_R_top_11 : decode prog_6_method_3_code 11 = .ok (.aload_n 0, 1) := by decide +kernel
theorem d_R_top_12 : decode prog_6_method_3_code 12 = .ok (.getfield 20, 3) := by decide +kernel
theorem d_R_top_15 : decode prog_6_method_3_code 15 = .ok (.iconst 0, 1) := by decide +kernel
theorem d_R_top_16 : decode prog_6_method_3_code 16 = .ok (.aaload, 1) := by decide +kernel
theorem d_R_top_17 : decode prog_6_method_3_code 17 = .ok (.areturn, 1) := by decide +kernel
theorem d_H_add_0 : decode prog_4_method_2_code 0 = .ok (.aload_n 0, 1) := by decide +kernel
theorem d_H_add_1 : decode prog_4_method_2_code 1 = .ok (.getfield 17, 3) := by decide +kernel
theorem d_H_add_4 : decode prog_4_method_2_code 4 = .ok (.bipush 16, 2) := by decide +kernel
theorem d_H_add_6 : decode prog_4_method_2_code 6 = .ok (.if_icmp .ge 23, 3) := by decide +kernel
theorem d_H_add_9 : decode prog_4_method_2_code 9 = .ok (.aload_n 0, 1) := by decide +kernel
theorem d_H_add_10 : decode prog_4_method_2_code 10 = .ok (.getfield 11, 3) := by decide +kernel
theorem d_H_add_13 : decode prog_4_method_2_code 13 = .ok (.aload_n 0, 1) := by decide +kernel
theorem d_H_add_14 : decode prog_4_method_2_code 14 = .ok (.getfield 17, 3) := by decide +kernel
theorem d_H_add_17 : decode prog_4_method_2_code 17 = .ok (.aload_n 1, 1) := by decide +kernel
theorem d_H_add_18 : decode prog_4_method_2_code 18 = .ok (.aastore, 1) := by decide +kernel
theorem d_H_add_19 : decode prog_4_method_2_code 19 = .ok (.aload_n 0, 1) := by decide +kernel
theorem d_H_add_20 : decode prog_4_method_2_code 20 = .ok (.dup, 1) := by decide +kernel
theorem d_H_add_21 : decode prog_4_method_2_code 21 = .ok (.getfield 17, 3) := by decide +kernel
theorem d_H_add_24 : decode prog_4_method_2_code 24 = .ok (.iconst 1, 1) := by decide +kernel
theorem d_H_add_25 : decode prog_4_method_2_code 25 = .ok (.iadd, 1) := by decide +kernel
theorem d_H_add_26 : decode prog_4_method_2_code 26 = .ok (.putfield 17, 3) := by decide +kernel
theorem d_H_add_29 : decode prog_4_method_2_code 29 = .ok (.return_, 1) := by decide +kernel
theorem d_K_get_0 : decode prog_1_method_9_code 0 = .ok (.iload_n 1, 1) := by decide +kernel
theorem d_K_get_1 : decode prog_1_method_9_code 1 = .ok (.iconst (-1), 1) := by decide +kernel
theorem d_K_get_2 : decode prog_1_method_9_code 2 = .ok (.if_icmp .eq 8, 3) := by decide +kernel
theorem d_K_get_5 : decode prog_1_method_9_code 5 = .ok (.aload_n 0, 1) := by decide +kernel
theorem d_K_get_6 : decode prog_1_method_9_code 6 = .ok (.iload_n 1, 1) := by decide +kernel
theorem d_K_get_7 : decode prog_1_method_9_code 7 = .ok (.invokevirtual 104, 3) := by decide +kernel
theorem d_K_get_10 : decode prog_1_method_9_code 10 = .ok (.iload_n 2, 1) := by decide +kernel
theorem d_K_get_11 : decode prog_1_method_9_code 11 = .ok (.invokestatic 51, 3) := by decide +kernel
theorem d_K_get_14 : decode prog_1_method_9_code 14 = .ok (.iload_n 1, 1) := by decide +kernel
theorem d_K_get_15 : decode prog_1_method_9_code 15 = .ok (.iconst (-1), 1) := by decide +kernel
theorem d_K_get_16 : decode prog_1_method_9_code 16 = .ok (.if_icmp .ne 25, 3) := by decide +kernel
theorem d_K_get_19 : decode prog_1_method_9_code 19 = .ok (.aload_n 0, 1) := by decide +kernel
theorem d_K_get_20 : decode prog_1_method_9_code 20 = .ok (.getfield 26, 3) := by decide +kernel
theorem d_K_get_23 : decode prog_1_method_9_code 23 = .ok (.getfield 107, 3) := by decide +kernel
theorem d_K_get_26 : decode prog_1_method_9_code 26 = .ok (.iload_n 2, 1) := by decide +kernel
theorem d_K_get_27 : decode prog_1_method_9_code 27 = .ok (.baload, 1) := by decide +kernel
theorem d_K_get_28 : decode prog_1_method_9_code 28 = .ok (.invokestatic 111, 3) := by decide +kernel
theorem d_K_get_31 : decode prog_1_method_9_code 31 = .ok (.aload_n 0, 1) := by decide +kernel
theorem d_K_get_32 : decode prog_1_method_9_code 32 = .ok (.getfield 26, 3) := by decide +kernel
theorem d_K_get_35 : decode prog_1_method_9_code 35 = .ok (.getfield 115, 3) := by decide +kernel
theorem d_K_get_38 : decode prog_1_method_9_code 38 = .ok (.iload_n 2, 1) := by decide +kernel
theorem d_K_get_39 : decode prog_1_method_9_code 39 = .ok (.iaload, 1) := by decide +kernel
theorem d_K_get_40 : decode prog_1_method_9_code 40 = .ok (.ireturn, 1) := by decide +kernel
theorem d_K_get_41 : decode prog_1_method_9_code 41 = .ok (.aload_n 0, 1) := by decide +kernel
theorem d_K_get_42 : decode prog_1_method_9_code 42 = .ok (.getfield 19, 3) := by decide +kernel
theorem d_K_get_45 : decode prog_1_method_9_code 45 = .ok (.getfield 93, 3) := by decide +kernel
theorem d_K_get_48 : decode prog_1_method_9_code 48 = .ok (.iload_n 1, 1) := by decide +kernel
theorem d_K_get_49 : decode prog_1_method_9_code 49 = .ok (.aaload, 1) := by decide +kernel
theorem d_K_get_50 : decode prog_1_method_9_code 50 = .ok (.iload_n 2, 1) := by decide +kernel
theorem d_K_get_51 : decode prog_1_method_9_code 51 = .ok (.invokestatic 119, 3) := by decide +kernel
theorem d_K_get_54 : decode prog_1_method_9_code 54 = .ok (.astore_n 3, 1) := by decide +kernel
theorem d_K_get_55 : decode prog_1_method_9_code 55 = .ok (.aload_n 3, 1) := by decide +kernel
theorem d_K_get_56 : decode prog_1_method_9_code 56 = .ok (.iload_n 2, 1) := by decide +kernel
theorem d_K_get_57 : decode prog_1_method_9_code 57 = .ok (.invokestatic 123, 3) := by decide +kernel
theorem d_K_get_60 : decode prog_1_method_9_code 60 = .ok (.invokestatic 111, 3) := by decide +kernel
theorem d_K_get_63 : decode prog_1_method_9_code 63 = .ok (.aload_n 3, 1) := by decide +kernel
theorem d_K_get_64 : decode prog_1_method_9_code 64 = .ok (.iload_n 2, 1) := by decide +kernel
theorem d_K_get_65 : decode prog_1_method_9_code 65 = .ok (.invokestatic 127, 3) := by decide +kernel
theorem d_K_get_68 : decode prog_1_method_9_code 68 = .ok (.ireturn, 1) := by decide +kernel
theorem d_K_requireVersion_0 : decode prog_1_method_22_code 0 = .ok (.iload_n 1, 1) := by decide +kernel
theorem d_K_requireVersion_1 : decode prog_1_method_22_code 1 = .ok (.ifCond .lt 18, 3) := by decide +kernel
theorem d_K_requireVersion_4 : decode prog_1_method_22_code 4 = .ok (.iload_n 1, 1) := by decide +kernel
theorem d_K_requireVersion_5 : decode prog_1_method_22_code 5 = .ok (.aload_n 0, 1) := by decide +kernel
theorem d_K_requireVersion_6 : decode prog_1_method_22_code 6 = .ok (.getfield 19, 3) := by decide +kernel
theorem d_K_requireVersion_9 : decode prog_1_method_22_code 9 = .ok (.getfield 89, 3) := by decide +kernel
theorem d_K_requireVersion_12 : decode prog_1_method_22_code 12 = .ok (.if_icmp .ge 7, 3) := by decide +kernel
theorem d_K_requireVersion_15 : decode prog_1_method_22_code 15 = .ok (.iconst 1, 1) := by decide +kernel
theorem d_K_requireVersion_16 : decode prog_1_method_22_code 16 = .ok (.goto 4, 3) := by decide +kernel
theorem d_K_requireVersion_19 : decode prog_1_method_22_code 19 = .ok (.iconst 0, 1) := by decide +kernel
theorem d_K_requireVersion_20 : decode prog_1_method_22_code 20 = .ok (.invokestatic 144, 3) := by decide +kernel
theorem d_K_requireVersion_23 : decode prog_1_method_22_code 23 = .ok (.return_, 1) := by decide +kernel
theorem d_K_requireValue_0 : decode prog_1_method_25_code 0 = .ok (.iload_n 0, 1) := by decide +kernel
theorem d_K_requireValue_1 : decode prog_1_method_25_code 1 = .ok (.ifCond .ne 13, 3) := by decide +kernel
theorem d_K_requireValue_4 : decode prog_1_method_25_code 4 = .ok (.new 207, 3) := by decide +kernel
theorem d_K_requireValue_7 : decode prog_1_method_25_code 7 = .ok (.dup, 1) := by decide +kernel
theorem d_K_requireValue_8 : decode prog_1_method_25_code 8 = .ok (.ldc 209, 2) := by decide +kernel
theorem d_K_requireValue_10 : decode prog_1_method_25_code 10 = .ok (.invokespecial 211, 3) := by decide +kernel
theorem d_K_requireValue_13 : decode prog_1_method_25_code 13 = .ok (.athrow, 1) := by decide +kernel
theorem d_K_requireValue_14 : decode prog_1_method_25_code 14 = .ok (.return_, 1) := by decide +kernel
theorem d_K_range_0 : decode prog_1_method_10_code 0 = .ok (.aload_n 0, 1) := by decide +kernel
theorem d_K_range_1 : decode prog_1_method_10_code 1 = .ok (.iload_n 1, 1) := by decide +kernel
theorem d_K_range_2 : decode prog_1_method_10_code 2 = .ok (.invokevirtual 104, 3) := by decide +kernel
theorem d_K_range_5 : decode prog_1_method_10_code 5 = .ok (.iload_n 3, 1) := by decide +kernel
theorem d_K_range_6 : decode prog_1_method_10_code 6 = .ok (.bipush 47, 2) := by decide +kernel
theorem d_K_range_8 : decode prog_1_method_10_code 8 = .ok (.invokestatic 131, 3) := by decide +kernel
theorem d_K_range_11 : decode prog_1_method_10_code 11 = .ok (.istore 4, 2) := by decide +kernel
theorem d_K_range_13 : decode prog_1_method_10_code 13 = .ok (.iconst 0, 1) := by decide +kernel
theorem d_K_range_14 : decode prog_1_method_10_code 14 = .ok (.istore 5, 2) := by decide +kernel
theorem d_K_range_16 : decode prog_1_method_10_code 16 = .ok (.iload_n 2, 1) := by decide +kernel
theorem d_K_range_17 : decode prog_1_method_10_code 17 = .ok (.iconst 0, 1) := by decide +kernel
theorem d_K_range_18 : decode prog_1_method_10_code 18 = .ok (.invokestatic 137, 3) := by decide +kernel
theorem d_K_range_21 : decode prog_1_method_10_code 21 = .ok (.istore 6, 2) := by decide +kernel
theorem d_K_range_23 : decode prog_1_method_10_code 23 = .ok (.iload 6, 2) := by decide +kernel
theorem d_K_range_25 : decode prog_1_method_10_code 25 = .ok (.iload 4, 2) := by decide +kernel
theorem d_K_range_27 : decode prog_1_method_10_code 27 = .ok (.if_icmp .gt 34, 3) := by decide +kernel
theorem d_K_range_30 : decode prog_1_method_10_code 30 = .ok (.aload_n 0, 1) := by decide +kernel
theorem d_K_range_31 : decode prog_1_method_10_code 31 = .ok (.getfield 19, 3) := by decide +kernel
theorem d_K_range_34 : decode prog_1_method_10_code 34 = .ok (.getfield 93, 3) := by decide +kernel
theorem d_K_range_37 : decode prog_1_method_10_code 37 = .ok (.iload_n 1, 1) := by decide +kernel
theorem d_K_range_38 : decode prog_1_method_10_code 38 = .ok (.aaload, 1) := by decide +kernel
theorem d_K_range_39 : decode prog_1_method_10_code 39 = .ok (.iload 6, 2) := by decide +kernel
theorem d_K_range_41 : decode prog_1_method_10_code 41 = .ok (.invokestatic 119, 3) := by decide +kernel
theorem d_K_range_44 : decode prog_1_method_10_code 44 = .ok (.iload 6, 2) := by decide +kernel
theorem d_K_range_46 : decode prog_1_method_10_code 46 = .ok (.invokestatic 123, 3) := by decide +kernel
theorem d_K_range_49 : decode prog_1_method_10_code 49 = .ok (.ifCond .eq 6, 3) := by decide +kernel
theorem d_K_range_52 : decode prog_1_method_10_code 52 = .ok (.iinc 5 1, 3) := by decide +kernel
theorem d_K_range_55 : decode prog_1_method_10_code 55 = .ok (.iinc 6 1, 3) := by decide +kernel
theorem d_K_range_58 : decode prog_1_method_10_code 58 = .ok (.goto (-35), 3) := by decide +kernel
theorem d_K_range_61 : decode prog_1_method_10_code 61 = .ok (.iload 5, 2) := by decide +kernel
theorem d_K_range_63 : decode prog_1_method_10_code 63 = .ok (.ireturn, 1) := by decide +kernel
theorem d_K_root_0 : decode prog_1_method_11_code 0 = .ok (.aload_n 0, 1) := by decide +kernel
theorem d_K_root_1 : decode prog_1_method_11_code 1 = .ok (.iload_n 1, 1) := by decide +kernel
theorem d_K_root_2 : decode prog_1_method_11_code 2 = .ok (.invokevirtual 104, 3) := by decide +kernel
theorem d_K_root_5 : decode prog_1_method_11_code 5 = .ok (.aload_n 0, 1) := by decide +kernel
theorem d_K_root_6 : decode prog_1_method_11_code 6 = .ok (.getfield 19, 3) := by decide +kernel
theorem d_K_root_9 : decode prog_1_method_11_code 9 = .ok (.iload_n 1, 1) := by decide +kernel
theorem d_K_root_10 : decode prog_1_method_11_code 10 = .ok (.invokevirtual 140, 3) := by decide +kernel
theorem d_K_root_13 : decode prog_1_method_11_code 13 = .ok (.ireturn, 1) := by decide +kernel
theorem d_H_rootOf_0 : decode prog_4_method_3_code 0 = .ok (.aload_n 0, 1) := by decide +kernel
theorem d_H_rootOf_1 : decode prog_4_method_3_code 1 = .ok (.getfield 11, 3) := by decide +kernel
theorem d_H_rootOf_4 : decode prog_4_method_3_code 4 = .ok (.iload_n 1, 1) := by decide +kernel
theorem d_H_rootOf_5 : decode prog_4_method_3_code 5 = .ok (.aaload, 1) := by decide +kernel
theorem d_H_rootOf_6 : decode prog_4_method_3_code 6 = .ok (.ifnonnull 7, 3) := by decide +kernel
theorem d_H_rootOf_9 : decode prog_4_method_3_code 9 = .ok (.iconst 0, 1) := by decide +kernel
theorem d_H_rootOf_10 : decode prog_4_method_3_code 10 = .ok (.goto 12, 3) := by decide +kernel
theorem d_H_rootOf_13 : decode prog_4_method_3_code 13 = .ok (.aload_n 0, 1) := by decide +kernel
theorem d_H_rootOf_14 : decode prog_4_method_3_code 14 = .ok (.getfield 11, 3) := by decide +kernel
theorem d_H_rootOf_17 : decode prog_4_method_3_code 17 = .ok (.iload_n 1, 1) := by decide +kernel
theorem d_H_rootOf_18 : decode prog_4_method_3_code 18 = .ok (.aaload, 1) := by decide +kernel
theorem d_H_rootOf_19 : decode prog_4_method_3_code 19 = .ok (.getfield 21, 3) := by decide +kernel
theorem d_H_rootOf_22 : decode prog_4_method_3_code 22 = .ok (.ireturn, 1) := by decide +kernel
theorem d_K_digest_0 : decode prog_1_method_12_code 0 = .ok (.iload_n 1, 1) := by decide +kernel
theorem d_K_digest_1 : decode prog_1_method_12_code 1 = .ok (.ifCond .lt 18, 3) := by decide +kernel
theorem d_K_digest_4 : decode prog_1_method_12_code 4 = .ok (.iload_n 1, 1) := by decide +kernel
theorem d_K_digest_5 : decode prog_1_method_12_code 5 = .ok (.aload_n 0, 1) := by decide +kernel
theorem d_K_digest_6 : decode prog_1_method_12_code 6 = .ok (.getfield 19, 3) := by decide +kernel
theorem d_K_digest_9 : decode prog_1_method_12_code 9 = .ok (.getfield 89, 3) := by decide +kernel
theorem d_K_digest_12 : decode prog_1_method_12_code 12 = .ok (.if_icmp .gt 7, 3) := by decide +kernel
theorem d_K_digest_15 : decode prog_1_method_12_code 15 = .ok (.iconst 1, 1) := by decide +kernel
theorem d_K_digest_16 : decode prog_1_method_12_code 16 = .ok (.goto 4, 3) := by decide +kernel
theorem d_K_digest_19 : decode prog_1_method_12_code 19 = .ok (.iconst 0, 1) := by decide +kernel
theorem d_K_digest_20 : decode prog_1_method_12_code 20 = .ok (.invokestatic 144, 3) := by decide +kernel
theorem d_K_digest_23 : decode prog_1_method_12_code 23 = .ok (.iload_n 1, 1) := by decide +kernel
theorem d_K_digest_24 : decode prog_1_method_12_code 24 = .ok (.ifCond .ne 7, 3) := by decide +kernel
theorem d_K_digest_27 : decode prog_1_method_12_code 27 = .ok (.iconst 0, 1) := by decide +kernel
theorem d_K_digest_28 : decode prog_1_method_12_code 28 = .ok (.goto 12, 3) := by decide +kernel
theorem d_K_digest_31 : decode prog_1_method_12_code 31 = .ok (.aload_n 0, 1) := by decide +kernel
theorem d_K_digest_32 : decode prog_1_method_12_code 32 = .ok (.getfield 19, 3) := by decide +kernel
theorem d_K_digest_35 : decode prog_1_method_12_code 35 = .ok (.iconst 0, 1) := by decide +kernel
theorem d_K_digest_36 : decode prog_1_method_12_code 36 = .ok (.iload_n 1, 1) := by decide +kernel
theorem d_K_digest_37 : decode prog_1_method_12_code 37 = .ok (.invokevirtual 147, 3) := by decide +kernel
theorem d_K_digest_40 : decode prog_1_method_12_code 40 = .ok (.ireturn, 1) := by decide +kernel
theorem d_H_seal_0 : decode prog_4_method_4_code 0 = .ok (.iload_n 2, 1) := by decide +kernel
theorem d_H_seal_1 : decode prog_4_method_4_code 1 = .ok (.iconst 2, 1) := by decide +kernel
theorem d_H_seal_2 : decode prog_4_method_4_code 2 = .ok (.if_icmp .ge 13, 3) := by decide +kernel
theorem d_H_seal_5 : decode prog_4_method_4_code 5 = .ok (.iload_n 1, 1) := by decide +kernel
theorem d_H_seal_6 : decode prog_4_method_4_code 6 = .ok (.aload_n 0, 1) := by decide +kernel
theorem d_H_seal_7 : decode prog_4_method_4_code 7 = .ok (.iload_n 1, 1) := by decide +kernel
theorem d_H_seal_8 : decode prog_4_method_4_code 8 = .ok (.invokevirtual 24, 3) := by decide +kernel
theorem d_H_seal_11 : decode prog_4_method_4_code 11 = .ok (.invokestatic 28, 3) := by decide +kernel
theorem d_H_seal_14 : decode prog_4_method_4_code 14 = .ok (.ireturn, 1) := by decide +kernel
theorem d_H_seal_15 : decode prog_4_method_4_code 15 = .ok (.iload_n 2, 1) := by decide +kernel
theorem d_H_seal_16 : decode prog_4_method_4_code 16 = .ok (.invokestatic 32, 3) := by decide +kernel
theorem d_H_seal_19 : decode prog_4_method_4_code 19 = .ok (.istore_n 3, 1) := by decide +kernel
theorem d_H_seal_20 : decode prog_4_method_4_code 20 = .ok (.aload_n 0, 1) := by decide +kernel
theorem d_H_seal_21 : decode prog_4_method_4_code 21 = .ok (.iload_n 1, 1) := by decide +kernel
theorem d_H_seal_22 : decode prog_4_method_4_code 22 = .ok (.iload_n 3, 1) := by decide +kernel
theorem d_H_seal_23 : decode prog_4_method_4_code 23 = .ok (.invokevirtual 35, 3) := by decide +kernel
theorem d_H_seal_26 : decode prog_4_method_4_code 26 = .ok (.aload_n 0, 1) := by decide +kernel
theorem d_H_seal_27 : decode prog_4_method_4_code 27 = .ok (.iload_n 1, 1) := by decide +kernel
theorem d_H_seal_28 : decode prog_4_method_4_code 28 = .ok (.iload_n 3, 1) := by decide +kernel
theorem d_H_seal_29 : decode prog_4_method_4_code 29 = .ok (.iadd, 1) := by decide +kernel
theorem d_H_seal_30 : decode prog_4_method_4_code 30 = .ok (.iload_n 2, 1) := by decide +kernel
theorem d_H_seal_31 : decode prog_4_method_4_code 31 = .ok (.iload_n 3, 1) := by decide +kernel
theorem d_H_seal_32 : decode prog_4_method_4_code 32 = .ok (.isub, 1) := by decide +kernel
theorem d_H_seal_33 : decode prog_4_method_4_code 33 = .ok (.invokevirtual 35, 3) := by decide +kernel
theorem d_H_seal_36 : decode prog_4_method_4_code 36 = .ok (.invokestatic 38, 3) := by decide +kernel
theorem d_H_seal_39 : decode prog_4_method_4_code 39 = .ok (.ireturn, 1) := by decide +kernel
theorem d_K_leafOf_0 : decode prog_1_method_27_code 0 = .ok (.bipush 7, 2) := by decide +kernel
theorem d_K_leafOf_2 : decode prog_1_method_27_code 2 = .ok (.iload_n 0, 1) := by decide +kernel
theorem d_K_leafOf_3 : decode prog_1_method_27_code 3 = .ok (.invokestatic 213, 3) := by decide +kernel
theorem d_K_leafOf_6 : decode prog_1_method_27_code 6 = .ok (.iload_n 1, 1) := by decide +kernel
theorem d_K_leafOf_7 : decode prog_1_method_27_code 7 = .ok (.invokestatic 213, 3) := by decide +kernel
theorem d_K_leafOf_10 : decode prog_1_method_27_code 10 = .ok (.ireturn, 1) := by decide +kernel
theorem d_K_half_0 : decode prog_1_method_29_code 0 = .ok (.iconst 1, 1) := by decide +kernel
theorem d_K_half_1 : decode prog_1_method_29_code 1 = .ok (.istore_n 1, 1) := by decide +kernel
theorem d_K_half_2 : decode prog_1_method_29_code 2 = .ok (.iload_n 1, 1) := by decide +kernel
theorem d_K_half_3 : decode prog_1_method_29_code 3 = .ok (.iconst 2, 1) := by decide +kernel
theorem d_K_half_4 : decode prog_1_method_29_code 4 = .ok (.imul, 1) := by decide +kernel
theorem d_K_half_5 : decode prog_1_method_29_code 5 = .ok (.iload_n 0, 1) := by decide +kernel
theorem d_K_half_6 : decode prog_1_method_29_code 6 = .ok (.if_icmp .ge 16, 3) := by decide +kernel
theorem d_K_half_9 : decode prog_1_method_29_code 9 = .ok (.iload_n 1, 1) := by decide +kernel
theorem d_K_half_10 : decode prog_1_method_29_code 10 = .ok (.bipush 16, 2) := by decide +kernel
theorem d_K_half_12 : decode prog_1_method_29_code 12 = .ok (.if_icmp .ge 10, 3) := by decide +kernel
theorem d_K_half_15 : decode prog_1_method_29_code 15 = .ok (.iload_n 1, 1) := by decide +kernel
theorem d_K_half_16 : decode prog_1_method_29_code 16 = .ok (.iconst 2, 1) := by decide +kernel
theorem d_K_half_17 : decode prog_1_method_29_code 17 = .ok (.imul, 1) := by decide +kernel
theorem d_K_half_18 : decode prog_1_method_29_code 18 = .ok (.istore_n 1, 1) := by decide +kernel
theorem d_K_half_19 : decode prog_1_method_29_code 19 = .ok (.goto (-17), 3) := by decide +kernel
theorem d_K_half_22 : decode prog_1_method_29_code 22 = .ok (.iload_n 1, 1) := by decide +kernel
theorem d_K_half_23 : decode prog_1_method_29_code 23 = .ok (.ireturn, 1) := by decide +kernel
theorem d_K_join_0 : decode prog_1_method_28_code 0 = .ok (.bipush 8, 2) := by decide +kernel
theorem d_K_join_2 : decode prog_1_method_28_code 2 = .ok (.iload_n 0, 1) := by decide +kernel
theorem d_K_join_3 : decode prog_1_method_28_code 3 = .ok (.invokestatic 213, 3) := by decide +kernel
theorem d_K_join_6 : decode prog_1_method_28_code 6 = .ok (.iload_n 1, 1) := by decide +kernel
theorem d_K_join_7 : decode prog_1_method_28_code 7 = .ok (.invokestatic 213, 3) := by decide +kernel
theorem d_K_join_10 : decode prog_1_method_28_code 10 = .ok (.ireturn, 1) := by decide +kernel
theorem d_K_prove_0 : decode prog_1_method_13_code 0 = .ok (.iload_n 1, 1) := by decide +kernel
theorem d_K_prove_1 : decode prog_1_method_13_code 1 = .ok (.aload_n 0, 1) := by decide +kernel
theorem d_K_prove_2 : decode prog_1_method_13_code 2 = .ok (.getfield 19, 3) := by decide +kernel
theorem d_K_prove_5 : decode prog_1_method_13_code 5 = .ok (.getfield 89, 3) := by decide +kernel
theorem d_K_prove_8 : decode prog_1_method_13_code 8 = .ok (.if_icmp .gt 16, 3) := by decide +kernel
theorem d_K_prove_11 : decode prog_1_method_13_code 11 = .ok (.iload_n 2, 1) := by decide +kernel
theorem d_K_prove_12 : decode prog_1_method_13_code 12 = .ok (.ifCond .lt 12, 3) := by decide +kernel
theorem d_K_prove_15 : decode prog_1_method_13_code 15 = .ok (.iload_n 2, 1) := by decide +kernel
theorem d_K_prove_16 : decode prog_1_method_13_code 16 = .ok (.iload_n 1, 1) := by decide +kernel
theorem d_K_prove_17 : decode prog_1_method_13_code 17 = .ok (.if_icmp .ge 7, 3) := by decide +kernel
theorem d_K_prove_20 : decode prog_1_method_13_code 20 = .ok (.iconst 1, 1) := by decide +kernel
theorem d_K_prove_21 : decode prog_1_method_13_code 21 = .ok (.goto 4, 3) := by decide +kernel
theorem d_K_prove_24 : decode prog_1_method_13_code 24 = .ok (.iconst 0, 1) := by decide +kernel
theorem d_K_prove_25 : decode prog_1_method_13_code 25 = .ok (.invokestatic 144, 3) := by decide +kernel
theorem d_K_prove_28 : decode prog_1_method_13_code 28 = .ok (.iload_n 3, 1) := by decide +kernel
theorem d_K_prove_29 : decode prog_1_method_13_code 29 = .ok (.invokestatic 51, 3) := by decide +kernel
theorem d_K_prove_32 : decode prog_1_method_13_code 32 = .ok (.aload_n 0, 1) := by decide +kernel
theorem d_K_prove_33 : decode prog_1_method_13_code 33 = .ok (.getfield 40, 3) := by decide +kernel
theorem d_K_prove_36 : decode prog_1_method_13_code 36 = .ok (.aload_n 0, 1) := by decide +kernel
theorem d_K_prove_37 : decode prog_1_method_13_code 37 = .ok (.getfield 19, 3) := by decide +kernel
theorem d_K_prove_40 : decode prog_1_method_13_code 40 = .ok (.iload_n 1, 1) := by decide +kernel
theorem d_K_prove_41 : decode prog_1_method_13_code 41 = .ok (.iload_n 2, 1) := by decide +kernel
theorem d_K_prove_42 : decode prog_1_method_13_code 42 = .ok (.iload_n 3, 1) := by decide +kernel
theorem d_K_prove_43 : decode prog_1_method_13_code 43 = .ok (.invokevirtual 150, 3) := by decide +kernel
theorem d_K_prove_46 : decode prog_1_method_13_code 46 = .ok (.aload_n 0, 1) := by decide +kernel
theorem d_K_prove_47 : decode prog_1_method_13_code 47 = .ok (.getfield 40, 3) := by decide +kernel
theorem d_K_prove_50 : decode prog_1_method_13_code 50 = .ok (.getfield 154, 3) := by decide +kernel
theorem d_K_prove_53 : decode prog_1_method_13_code 53 = .ok (.getfield 158, 3) := by decide +kernel
theorem d_K_prove_56 : decode prog_1_method_13_code 56 = .ok (.ireturn, 1) := by decide +kernel
theorem d_P_makeProof_0 : decode prog_5_method_2_code 0 = .ok (.aload_n 0, 1) := by decide +kernel
theorem d_P_makeProof_1 : decode prog_5_method_2_code 1 = .ok (.getfield 10, 3) := by decide +kernel
theorem d_P_makeProof_4 : decode prog_5_method_2_code 4 = .ok (.invokevirtual 16, 3) := by decide +kernel
theorem d_P_makeProof_7 : decode prog_5_method_2_code 7 = .ok (.aload_n 0, 1) := by decide +kernel
theorem d_P_makeProof_8 : decode prog_5_method_2_code 8 = .ok (.getfield 10, 3) := by decide +kernel
theorem d_P_makeProof_11 : decode prog_5_method_2_code 11 = .ok (.iconst 0, 1) := by decide +kernel
theorem d_P_makeProof_12 : decode prog_5_method_2_code 12 = .ok (.invokevirtual 19, 3) := by decide +kernel
theorem d_P_makeProof_15 : decode prog_5_method_2_code 15 = .ok (.aload_n 0, 1) := by decide +kernel
theorem d_P_makeProof_16 : decode prog_5_method_2_code 16 = .ok (.aload_n 1, 1) := by decide +kernel
theorem d_P_makeProof_17 : decode prog_5_method_2_code 17 = .ok (.iconst 0, 1) := by decide +kernel
theorem d_P_makeProof_18 : decode prog_5_method_2_code 18 = .ok (.iload_n 2, 1) := by decide +kernel
theorem d_P_makeProof_19 : decode prog_5_method_2_code 19 = .ok (.iload_n 3, 1) := by decide +kernel
theorem d_P_makeProof_20 : decode prog_5_method_2_code 20 = .ok (.invokevirtual 23, 3) := by decide +kernel
theorem d_P_makeProof_23 : decode prog_5_method_2_code 23 = .ok (.aload_n 0, 1) := by decide +kernel
theorem d_P_makeProof_24 : decode prog_5_method_2_code 24 = .ok (.getfield 10, 3) := by decide +kernel
theorem d_P_makeProof_27 : decode prog_5_method_2_code 27 = .ok (.invokevirtual 27, 3) := by decide +kernel
theorem d_P_makeProof_30 : decode prog_5_method_2_code 30 = .ok (.aload_n 1, 1) := by decide +kernel
theorem d_P_makeProof_31 : decode prog_5_method_2_code 31 = .ok (.getfield 30, 3) := by decide +kernel
theorem d_P_makeProof_34 : decode prog_5_method_2_code 34 = .ok (.iload_n 3, 1) := by decide +kernel
theorem d_P_makeProof_35 : decode prog_5_method_2_code 35 = .ok (.aaload, 1) := by decide +kernel
theorem d_P_makeProof_36 : decode prog_5_method_2_code 36 = .ok (.astore 5, 2) := by decide +kernel
theorem d_P_makeProof_38 : decode prog_5_method_2_code 38 = .ok (.aload_n 0, 1) := by decide +kernel
theorem d_P_makeProof_39 : decode prog_5_method_2_code 39 = .ok (.getfield 10, 3) := by decide +kernel
theorem d_P_makeProof_42 : decode prog_5_method_2_code 42 = .ok (.aload 5, 2) := by decide +kernel
theorem d_P_makeProof_44 : decode prog_5_method_2_code 44 = .ok (.ifnonnull 7, 3) := by decide +kernel
theorem d_P_makeProof_47 : decode prog_5_method_2_code 47 = .ok (.iconst 0, 1) := by decide +kernel
theorem d_P_makeProof_48 : decode prog_5_method_2_code 48 = .ok (.goto 10, 3) := by decide +kernel
theorem d_P_makeProof_51 : decode prog_5_method_2_code 51 = .ok (.aload 5, 2) := by decide +kernel
theorem d_P_makeProof_53 : decode prog_5_method_2_code 53 = .ok (.getfield 36, 3) := by decide +kernel
theorem d_P_makeProof_56 : decode prog_5_method_2_code 56 = .ok (.iconst 1, 1) := by decide +kernel
theorem d_P_makeProof_57 : decode prog_5_method_2_code 57 = .ok (.iadd, 1) := by decide +kernel
theorem d_P_makeProof_58 : decode prog_5_method_2_code 58 = .ok (.invokevirtual 19, 3) := by decide +kernel
theorem d_P_makeProof_61 : decode prog_5_method_2_code 61 = .ok (.aload 5, 2) := by decide +kernel
theorem d_P_makeProof_63 : decode prog_5_method_2_code 63 = .ok (.astore 6, 2) := by decide +kernel
theorem d_P_makeProof_65 : decode prog_5_method_2_code 65 = .ok (.aload 6, 2) := by decide +kernel
theorem d_P_makeProof_67 : decode prog_5_method_2_code 67 = .ok (.ifnull 21, 3) := by decide +kernel
theorem d_P_makeProof_70 : decode prog_5_method_2_code 70 = .ok (.aload_n 0, 1) := by decide +kernel
theorem d_P_makeProof_71 : decode prog_5_method_2_code 71 = .ok (.aload 6, 2) := by decide +kernel
theorem d_P_makeProof_73 : decode prog_5_method_2_code 73 = .ok (.invokevirtual 42, 3) := by decide +kernel
theorem d_P_makeProof_76 : decode prog_5_method_2_code 76 = .ok (.aload 6, 2) := by decide +kernel
theorem d_P_makeProof_78 : decode prog_5_method_2_code 78 = .ok (.iload 4, 2) := by decide +kernel
theorem d_P_makeProof_80 : decode prog_5_method_2_code 80 = .ok (.invokevirtual 46, 3) := by decide +kernel
theorem d_P_makeProof_83 : decode prog_5_method_2_code 83 = .ok (.astore 6, 2) := by decide +kernel
theorem d_P_makeProof_85 : decode prog_5_method_2_code 85 = .ok (.goto (-20), 3) := by decide +kernel
theorem d_P_makeProof_88 : decode prog_5_method_2_code 88 = .ok (.return_, 1) := by decide +kernel
theorem d_B_clear_0 : decode prog_2_method_2_code 0 = .ok (.aload_n 0, 1) := by decide +kernel
theorem d_B_clear_1 : decode prog_2_method_2_code 1 = .ok (.iconst 0, 1) := by decide +kernel
theorem d_B_clear_2 : decode prog_2_method_2_code 2 = .ok (.putfield 15, 3) := by decide +kernel
theorem d_B_clear_5 : decode prog_2_method_2_code 5 = .ok (.return_, 1) := by decide +kernel
theorem d_B_appendByte_0 : decode prog_2_method_5_code 0 = .ok (.aload_n 0, 1) := by decide +kernel
theorem d_B_appendByte_1 : decode prog_2_method_5_code 1 = .ok (.iload_n 1, 1) := by decide +kernel
theorem d_B_appendByte_2 : decode prog_2_method_5_code 2 = .ok (.iconst 1, 1) := by decide +kernel
theorem d_B_appendByte_3 : decode prog_2_method_5_code 3 = .ok (.invokevirtual 19, 3) := by decide +kernel
theorem d_B_appendByte_6 : decode prog_2_method_5_code 6 = .ok (.return_, 1) := by decide +kernel
theorem d_P_addWay_0 : decode prog_5_method_4_code 0 = .ok (.iload_n 3, 1) := by decide +kernel
theorem d_P_addWay_1 : decode prog_5_method_4_code 1 = .ok (.iconst 2, 1) := by decide +kernel
theorem d_P_addWay_2 : decode prog_5_method_4_code 2 = .ok (.if_icmp .ge 4, 3) := by decide +kernel
theorem d_P_addWay_5 : decode prog_5_method_4_code 5 = .ok (.return_, 1) := by decide +kernel
theorem d_P_addWay_6 : decode prog_5_method_4_code 6 = .ok (.iload_n 3, 1) := by decide +kernel
theorem d_P_addWay_7 : decode prog_5_method_4_code 7 = .ok (.invokestatic 53, 3) := by decide +kernel
theorem d_P_addWay_10 : decode prog_5_method_4_code 10 = .ok (.istore 5, 2) := by decide +kernel
theorem d_P_addWay_12 : decode prog_5_method_4_code 12 = .ok (.iload_n 2, 1) := by decide +kernel
theorem d_P_addWay_13 : decode prog_5_method_4_code 13 = .ok (.iload 5, 2) := by decide +kernel
theorem d_P_addWay_15 : decode prog_5_method_4_code 15 = .ok (.iadd, 1) := by decide +kernel
theorem d_P_addWay_16 : decode prog_5_method_4_code 16 = .ok (.istore 6, 2) := by decide +kernel
theorem d_P_addWay_18 : decode prog_5_method_4_code 18 = .ok (.iload 4, 2) := by decide +kernel
theorem d_P_addWay_20 : decode prog_5_method_4_code 20 = .ok (.iload 6, 2) := by decide +kernel
theorem d_P_addWay_22 : decode prog_5_method_4_code 22 = .ok (.if_icmp .ge 33, 3) := by decide +kernel
theorem d_P_addWay_25 : decode prog_5_method_4_code 25 = .ok (.aload_n 0, 1) := by decide +kernel
theorem d_P_addWay_26 : decode prog_5_method_4_code 26 = .ok (.aload_n 1, 1) := by decide +kernel
theorem d_P_addWay_27 : decode prog_5_method_4_code 27 = .ok (.iload_n 2, 1) := by decide +kernel
theorem d_P_addWay_28 : decode prog_5_method_4_code 28 = .ok (.iload 5, 2) := by decide +kernel
theorem d_P_addWay_30 : decode prog_5_method_4_code 30 = .ok (.iload 4, 2) := by decide +kernel
theorem d_P_addWay_32 : decode prog_5_method_4_code 32 = .ok (.invokevirtual 23, 3) := by decide +kernel
theorem d_P_addWay_35 : decode prog_5_method_4_code 35 = .ok (.aload_n 0, 1) := by decide +kernel
theorem d_P_addWay_36 : decode prog_5_method_4_code 36 = .ok (.getfield 10, 3) := by decide +kernel
theorem d_P_addWay_39 : decode prog_5_method_4_code 39 = .ok (.aload_n 1, 1) := by decide +kernel
theorem d_P_addWay_40 : decode prog_5_method_4_code 40 = .ok (.iload 6, 2) := by decide +kernel
theorem d_P_addWay_42 : decode prog_5_method_4_code 42 = .ok (.iload_n 3, 1) := by decide +kernel
theorem d_P_addWay_43 : decode prog_5_method_4_code 43 = .ok (.iload 5, 2) := by decide +kernel
theorem d_P_addWay_45 : decode prog_5_method_4_code 45 = .ok (.isub, 1) := by decide +kernel
theorem d_P_addWay_46 : decode prog_5_method_4_code 46 = .ok (.invokevirtual 59, 3) := by decide +kernel
theorem d_P_addWay_49 : decode prog_5_method_4_code 49 = .ok (.invokevirtual 63, 3) := by decide +kernel
theorem d_P_addWay_52 : decode prog_5_method_4_code 52 = .ok (.goto 30, 3) := by decide +kernel
theorem d_P_addWay_55 : decode prog_5_method_4_code 55 = .ok (.aload_n 0, 1) := by decide +kernel
theorem d_P_addWay_56 : decode prog_5_method_4_code 56 = .ok (.aload_n 1, 1) := by decide +kernel
theorem d_P_addWay_57 : decode prog_5_method_4_code 57 = .ok (.iload 6, 2) := by decide +kernel
theorem d_P_addWay_59 : decode prog_5_method_4_code 59 = .ok (.iload_n 3, 1) := by decide +kernel
theorem d_P_addWay_60 : decode prog_5_method_4_code 60 = .ok (.iload 5, 2) := by decide +kernel
theorem d_P_addWay_62 : decode prog_5_method_4_code 62 = .ok (.isub, 1) := by decide +kernel
theorem d_P_addWay_63 : decode prog_5_method_4_code 63 = .ok (.iload 4, 2) := by decide +kernel
theorem d_P_addWay_65 : decode prog_5_method_4_code 65 = .ok (.invokevirtual 23, 3) := by decide +kernel
theorem d_P_addWay_68 : decode prog_5_method_4_code 68 = .ok (.aload_n 0, 1) := by decide +kernel
theorem d_P_addWay_69 : decode prog_5_method_4_code 69 = .ok (.getfield 10, 3) := by decide +kernel
theorem d_P_addWay_72 : decode prog_5_method_4_code 72 = .ok (.aload_n 1, 1) := by decide +kernel
theorem d_P_addWay_73 : decode prog_5_method_4_code 73 = .ok (.iload_n 2, 1) := by decide +kernel
theorem d_P_addWay_74 : decode prog_5_method_4_code 74 = .ok (.iload 5, 2) := by decide +kernel
theorem d_P_addWay_76 : decode prog_5_method_4_code 76 = .ok (.invokevirtual 59, 3) := by decide +kernel
theorem d_P_addWay_79 : decode prog_5_method_4_code 79 = .ok (.invokevirtual 63, 3) := by decide +kernel
theorem d_P_addWay_82 : decode prog_5_method_4_code 82 = .ok (.return_, 1) := by decide +kernel
theorem d_B_appendInt_0 : decode prog_2_method_6_code 0 = .ok (.aload_n 0, 1) := by decide +kernel
theorem d_B_appendInt_1 : decode prog_2_method_6_code 1 = .ok (.iload_n 1, 1) := by decide +kernel
theorem d_B_appendInt_2 : decode prog_2_method_6_code 2 = .ok (.iconst 4, 1) := by decide +kernel
theorem d_B_appendInt_3 : decode prog_2_method_6_code 3 = .ok (.invokevirtual 19, 3) := by decide +kernel
theorem d_B_appendInt_6 : decode prog_2_method_6_code 6 = .ok (.return_, 1) := by decide +kernel
theorem d_B_countInts_0 : decode prog_2_method_9_code 0 = .ok (.aload_n 0, 1) := by decide +kernel
theorem d_B_countInts_1 : decode prog_2_method_9_code 1 = .ok (.getfield 9, 3) := by decide +kernel
theorem d_B_countInts_4 : decode prog_2_method_9_code 4 = .ok (.iconst 0, 1) := by decide +kernel
theorem d_B_countInts_5 : decode prog_2_method_9_code 5 = .ok (.aload_n 0, 1) := by decide +kernel
theorem d_B_countInts_6 : decode prog_2_method_9_code 6 = .ok (.getfield 15, 3) := by decide +kernel
theorem d_B_countInts_9 : decode prog_2_method_9_code 9 = .ok (.iconst 1, 1) := by decide +kernel
theorem d_B_countInts_10 : decode prog_2_method_9_code 10 = .ok (.isub, 1) := by decide +kernel
theorem d_B_countInts_11 : decode prog_2_method_9_code 11 = .ok (.iconst 4, 1) := by decide +kernel
theorem d_B_countInts_12 : decode prog_2_method_9_code 12 = .ok (.idiv, 1) := by decide +kernel
theorem d_B_countInts_13 : decode prog_2_method_9_code 13 = .ok (.iastore, 1) := by decide +kernel
theorem d_B_countInts_14 : decode prog_2_method_9_code 14 = .ok (.return_, 1) := by decide +kernel
theorem d_P_addChunk_0 : decode prog_5_method_5_code 0 = .ok (.aload_n 0, 1) := by decide +kernel
theorem d_P_addChunk_1 : decode prog_5_method_5_code 1 = .ok (.getfield 10, 3) := by decide +kernel
theorem d_P_addChunk_4 : decode prog_5_method_5_code 4 = .ok (.aload_n 1, 1) := by decide +kernel
theorem d_P_addChunk_5 : decode prog_5_method_5_code 5 = .ok (.getfield 66, 3) := by decide +kernel
theorem d_P_addChunk_8 : decode prog_5_method_5_code 8 = .ok (.arraylength, 1) := by decide +kernel
theorem d_P_addChunk_9 : decode prog_5_method_5_code 9 = .ok (.invokevirtual 19, 3) := by decide +kernel
theorem d_P_addChunk_12 : decode prog_5_method_5_code 12 = .ok (.iconst 0, 1) := by decide +kernel
theorem d_P_addChunk_13 : decode prog_5_method_5_code 13 = .ok (.istore_n 2, 1) := by decide +kernel
theorem d_P_addChunk_14 : decode prog_5_method_5_code 14 = .ok (.iload_n 2, 1) := by decide +kernel
theorem d_P_addChunk_15 : decode prog_5_method_5_code 15 = .ok (.aload_n 1, 1) := by decide +kernel
theorem d_P_addChunk_16 : decode prog_5_method_5_code 16 = .ok (.getfield 66, 3) := by decide +kernel
theorem d_P_addChunk_19 : decode prog_5_method_5_code 19 = .ok (.arraylength, 1) := by decide +kernel
theorem d_P_addChunk_20 : decode prog_5_method_5_code 20 = .ok (.if_icmp .ge 35, 3) := by decide +kernel
theorem d_P_addChunk_23 : decode prog_5_method_5_code 23 = .ok (.aload_n 0, 1) := by decide +kernel
theorem d_P_addChunk_24 : decode prog_5_method_5_code 24 = .ok (.getfield 10, 3) := by decide +kernel
theorem d_P_addChunk_27 : decode prog_5_method_5_code 27 = .ok (.aload_n 1, 1) := by decide +kernel
theorem d_P_addChunk_28 : decode prog_5_method_5_code 28 = .ok (.getfield 66, 3) := by decide +kernel
theorem d_P_addChunk_31 : decode prog_5_method_5_code 31 = .ok (.iload_n 2, 1) := by decide +kernel
theorem d_P_addChunk_32 : decode prog_5_method_5_code 32 = .ok (.iaload, 1) := by decide +kernel
theorem d_P_addChunk_33 : decode prog_5_method_5_code 33 = .ok (.invokevirtual 19, 3) := by decide +kernel
theorem d_P_addChunk_36 : decode prog_5_method_5_code 36 = .ok (.aload_n 0, 1) := by decide +kernel
theorem d_P_addChunk_37 : decode prog_5_method_5_code 37 = .ok (.getfield 10, 3) := by decide +kernel
theorem d_P_addChunk_40 : decode prog_5_method_5_code 40 = .ok (.aload_n 1, 1) := by decide +kernel
theorem d_P_addChunk_41 : decode prog_5_method_5_code 41 = .ok (.getfield 70, 3) := by decide +kernel
theorem d_P_addChunk_44 : decode prog_5_method_5_code 44 = .ok (.iload_n 2, 1) := by decide +kernel
theorem d_P_addChunk_45 : decode prog_5_method_5_code 45 = .ok (.iaload, 1) := by decide +kernel
theorem d_P_addChunk_46 : decode prog_5_method_5_code 46 = .ok (.invokevirtual 63, 3) := by decide +kernel
theorem d_P_addChunk_49 : decode prog_5_method_5_code 49 = .ok (.iinc 2 1, 3) := by decide +kernel
theorem d_P_addChunk_52 : decode prog_5_method_5_code 52 = .ok (.goto (-38), 3) := by decide +kernel
theorem d_P_addChunk_55 : decode prog_5_method_5_code 55 = .ok (.return_, 1) := by decide +kernel
theorem d_K_proveGrowth_0 : decode prog_1_method_14_code 0 = .ok (.iload_n 1, 1) := by decide +kernel
theorem d_K_proveGrowth_1 : decode prog_1_method_14_code 1 = .ok (.ifCond .le 23, 3) := by decide +kernel
theorem d_K_proveGrowth_4 : decode prog_1_method_14_code 4 = .ok (.iload_n 1, 1) := by decide +kernel
theorem d_K_proveGrowth_5 : decode prog_1_method_14_code 5 = .ok (.iload_n 2, 1) := by decide +kernel
theorem d_K_proveGrowth_6 : decode prog_1_method_14_code 6 = .ok (.if_icmp .ge 18, 3) := by decide +kernel
theorem d_K_proveGrowth_9 : decode prog_1_method_14_code 9 = .ok (.iload_n 2, 1) := by decide +kernel
theorem d_K_proveGrowth_10 : decode prog_1_method_14_code 10 = .ok (.aload_n 0, 1) := by decide +kernel
theorem d_K_proveGrowth_11 : decode prog_1_method_14_code 11 = .ok (.getfield 19, 3) := by decide +kernel
theorem d_K_proveGrowth_14 : decode prog_1_method_14_code 14 = .ok (.getfield 89, 3) := by decide +kernel
theorem d_K_proveGrowth_17 : decode prog_1_method_14_code 17 = .ok (.if_icmp .gt 7, 3) := by decide +kernel
theorem d_K_proveGrowth_20 : decode prog_1_method_14_code 20 = .ok (.iconst 1, 1) := by decide +kernel
theorem d_K_proveGrowth_21 : decode prog_1_method_14_code 21 = .ok (.goto 4, 3) := by decide +kernel
theorem d_K_proveGrowth_24 : decode prog_1_method_14_code 24 = .ok (.iconst 0, 1) := by decide +kernel
theorem d_K_proveGrowth_25 : decode prog_1_method_14_code 25 = .ok (.invokestatic 144, 3) := by decide +kernel
theorem d_K_proveGrowth_28 : decode prog_1_method_14_code 28 = .ok (.aload_n 0, 1) := by decide +kernel
theorem d_K_proveGrowth_29 : decode prog_1_method_14_code 29 = .ok (.getfield 40, 3) := by decide +kernel
theorem d_K_proveGrowth_32 : decode prog_1_method_14_code 32 = .ok (.aload_n 0, 1) := by decide +kernel
theorem d_K_proveGrowth_33 : decode prog_1_method_14_code 33 = .ok (.getfield 19, 3) := by decide +kernel
theorem d_K_proveGrowth_36 : decode prog_1_method_14_code 36 = .ok (.iload_n 1, 1) := by decide +kernel
theorem d_K_proveGrowth_37 : decode prog_1_method_14_code 37 = .ok (.iload_n 2, 1) := by decide +kernel
theorem d_K_proveGrowth_38 : decode prog_1_method_14_code 38 = .ok (.invokevirtual 161, 3) := by decide +kernel
theorem d_K_proveGrowth_41 : decode prog_1_method_14_code 41 = .ok (.aload_n 0, 1) := by decide +kernel
theorem d_K_proveGrowth_42 : decode prog_1_method_14_code 42 = .ok (.getfield 40, 3) := by decide +kernel
theorem d_K_proveGrowth_45 : decode prog_1_method_14_code 45 = .ok (.getfield 154, 3) := by decide +kernel
theorem d_K_proveGrowth_48 : decode prog_1_method_14_code 48 = .ok (.getfield 158, 3) := by decide +kernel
theorem d_K_proveGrowth_51 : decode prog_1_method_14_code 51 = .ok (.ireturn, 1) := by decide +kernel
theorem d_P_makeGrowth_0 : decode prog_5_method_3_code 0 = .ok (.aload_n 0, 1) := by decide +kernel
theorem d_P_makeGrowth_1 : decode prog_5_method_3_code 1 = .ok (.getfield 10, 3) := by decide +kernel
theorem d_P_makeGrowth_4 : decode prog_5_method_3_code 4 = .ok (.invokevirtual 16, 3) := by decide +kernel
theorem d_P_makeGrowth_7 : decode prog_5_method_3_code 7 = .ok (.aload_n 0, 1) := by decide +kernel
theorem d_P_makeGrowth_8 : decode prog_5_method_3_code 8 = .ok (.getfield 10, 3) := by decide +kernel
theorem d_P_makeGrowth_11 : decode prog_5_method_3_code 11 = .ok (.iconst 0, 1) := by decide +kernel
theorem d_P_makeGrowth_12 : decode prog_5_method_3_code 12 = .ok (.invokevirtual 19, 3) := by decide +kernel
theorem d_P_makeGrowth_15 : decode prog_5_method_3_code 15 = .ok (.aload_n 0, 1) := by decide +kernel
theorem d_P_makeGrowth_16 : decode prog_5_method_3_code 16 = .ok (.aload_n 1, 1) := by decide +kernel
theorem d_P_makeGrowth_17 : decode prog_5_method_3_code 17 = .ok (.iconst 0, 1) := by decide +kernel
theorem d_P_makeGrowth_18 : decode prog_5_method_3_code 18 = .ok (.iload_n 3, 1) := by decide +kernel
theorem d_P_makeGrowth_19 : decode prog_5_method_3_code 19 = .ok (.iload_n 2, 1) := by decide +kernel
theorem d_P_makeGrowth_20 : decode prog_5_method_3_code 20 = .ok (.invokevirtual 50, 3) := by decide +kernel
theorem d_P_makeGrowth_23 : decode prog_5_method_3_code 23 = .ok (.aload_n 0, 1) := by decide +kernel
theorem d_P_makeGrowth_24 : decode prog_5_method_3_code 24 = .ok (.getfield 10, 3) := by decide +kernel
theorem d_P_makeGrowth_27 : decode prog_5_method_3_code 27 = .ok (.invokevirtual 27, 3) := by decide +kernel
theorem d_P_makeGrowth_30 : decode prog_5_method_3_code 30 = .ok (.return_, 1) := by decide +kernel
theorem d_P_addPart_0 : decode prog_5_method_6_code 0 = .ok (.iload 4, 2) := by decide +kernel
theorem d_P_addPart_2 : decode prog_5_method_6_code 2 = .ok (.iload_n 3, 1) := by decide +kernel
theorem d_P_addPart_3 : decode prog_5_method_6_code 3 = .ok (.if_icmp .lt 21, 3) := by decide +kernel
theorem d_P_addPart_6 : decode prog_5_method_6_code 6 = .ok (.iload_n 2, 1) := by decide +kernel
theorem d_P_addPart_7 : decode prog_5_method_6_code 7 = .ok (.ifCond .le 16, 3) := by decide +kernel
theorem d_P_addPart_10 : decode prog_5_method_6_code 10 = .ok (.aload_n 0, 1) := by decide +kernel
theorem d_P_addPart_11 : decode prog_5_method_6_code 11 = .ok (.getfield 10, 3) := by decide +kernel
theorem d_P_addPart_14 : decode prog_5_method_6_code 14 = .ok (.aload_n 1, 1) := by decide +kernel
theorem d_P_addPart_15 : decode prog_5_method_6_code 15 = .ok (.iload_n 2, 1) := by decide +kernel
theorem d_P_addPart_16 : decode prog_5_method_6_code 16 = .ok (.iload_n 3, 1) := by decide +kernel
theorem d_P_addPart_17 : decode prog_5_method_6_code 17 = .ok (.invokevirtual 59, 3) := by decide +kernel
theorem d_P_addPart_20 : decode prog_5_method_6_code 20 = .ok (.invokevirtual 63, 3) := by decide +kernel
theorem d_P_addPart_23 : decode prog_5_method_6_code 23 = .ok (.return_, 1) := by decide +kernel
theorem d_P_addPart_24 : decode prog_5_method_6_code 24 = .ok (.iload_n 3, 1) := by decide +kernel
theorem d_P_addPart_25 : decode prog_5_method_6_code 25 = .ok (.invokestatic 53, 3) := by decide +kernel
theorem d_P_addPart_28 : decode prog_5_method_6_code 28 = .ok (.istore 5, 2) := by decide +kernel
theorem d_P_addPart_30 : decode prog_5_method_6_code 30 = .ok (.iload_n 2, 1) := by decide +kernel
theorem d_P_addPart_31 : decode prog_5_method_6_code 31 = .ok (.iload 5, 2) := by decide +kernel
theorem d_P_addPart_33 : decode prog_5_method_6_code 33 = .ok (.iadd, 1) := by decide +kernel
theorem d_P_addPart_34 : decode prog_5_method_6_code 34 = .ok (.istore 6, 2) := by decide +kernel
theorem d_P_addPart_36 : decode prog_5_method_6_code 36 = .ok (.iload 4, 2) := by decide +kernel
theorem d_P_addPart_38 : decode prog_5_method_6_code 38 = .ok (.iload 5, 2) := by decide +kernel
theorem d_P_addPart_40 : decode prog_5_method_6_code 40 = .ok (.if_icmp .gt 33, 3) := by decide +kernel
theorem d_P_addPart_43 : decode prog_5_method_6_code 43 = .ok (.aload_n 0, 1) := by decide +kernel
theorem d_P_addPart_44 : decode prog_5_method_6_code 44 = .ok (.aload_n 1, 1) := by decide +kernel
theorem d_P_addPart_45 : decode prog_5_method_6_code 45 = .ok (.iload_n 2, 1) := by decide +kernel
theorem d_P_addPart_46 : decode prog_5_method_6_code 46 = .ok (.iload 5, 2) := by decide +kernel
theorem d_P_addPart_48 : decode prog_5_method_6_code 48 = .ok (.iload 4, 2) := by decide +kernel
theorem d_P_addPart_50 : decode prog_5_method_6_code 50 = .ok (.invokevirtual 50, 3) := by decide +kernel
theorem d_P_addPart_53 : decode prog_5_method_6_code 53 = .ok (.aload_n 0, 1) := by decide +kernel
theorem d_P_addPart_54 : decode prog_5_method_6_code 54 = .ok (.getfield 10, 3) := by decide +kernel
theorem d_P_addPart_57 : decode prog_5_method_6_code 57 = .ok (.aload_n 1, 1) := by decide +kernel
theorem d_P_addPart_58 : decode prog_5_method_6_code 58 = .ok (.iload 6, 2) := by decide +kernel
theorem d_P_addPart_60 : decode prog_5_method_6_code 60 = .ok (.iload_n 3, 1) := by decide +kernel
theorem d_P_addPart_61 : decode prog_5_method_6_code 61 = .ok (.iload 5, 2) := by decide +kernel
theorem d_P_addPart_63 : decode prog_5_method_6_code 63 = .ok (.isub, 1) := by decide +kernel
theorem d_P_addPart_64 : decode prog_5_method_6_code 64 = .ok (.invokevirtual 59, 3) := by decide +kernel
theorem d_P_addPart_67 : decode prog_5_method_6_code 67 = .ok (.invokevirtual 63, 3) := by decide +kernel
theorem d_P_addPart_70 : decode prog_5_method_6_code 70 = .ok (.goto 33, 3) := by decide +kernel
theorem d_P_addPart_73 : decode prog_5_method_6_code 73 = .ok (.aload_n 0, 1) := by decide +kernel
theorem d_P_addPart_74 : decode prog_5_method_6_code 74 = .ok (.aload_n 1, 1) := by decide +kernel
theorem d_P_addPart_75 : decode prog_5_method_6_code 75 = .ok (.iload 6, 2) := by decide +kernel
theorem d_P_addPart_77 : decode prog_5_method_6_code 77 = .ok (.iload_n 3, 1) := by decide +kernel
theorem d_P_addPart_78 : decode prog_5_method_6_code 78 = .ok (.iload 5, 2) := by decide +kernel
theorem d_P_addPart_80 : decode prog_5_method_6_code 80 = .ok (.isub, 1) := by decide +kernel
theorem d_P_addPart_81 : decode prog_5_method_6_code 81 = .ok (.iload 4, 2) := by decide +kernel
theorem d_P_addPart_83 : decode prog_5_method_6_code 83 = .ok (.iload 5, 2) := by decide +kernel
theorem d_P_addPart_85 : decode prog_5_method_6_code 85 = .ok (.isub, 1) := by decide +kernel
theorem d_P_addPart_86 : decode prog_5_method_6_code 86 = .ok (.invokevirtual 50, 3) := by decide +kernel
theorem d_P_addPart_89 : decode prog_5_method_6_code 89 = .ok (.aload_n 0, 1) := by decide +kernel
theorem d_P_addPart_90 : decode prog_5_method_6_code 90 = .ok (.getfield 10, 3) := by decide +kernel
theorem d_P_addPart_93 : decode prog_5_method_6_code 93 = .ok (.aload_n 1, 1) := by decide +kernel
theorem d_P_addPart_94 : decode prog_5_method_6_code 94 = .ok (.iload_n 2, 1) := by decide +kernel
theorem d_P_addPart_95 : decode prog_5_method_6_code 95 = .ok (.iload 5, 2) := by decide +kernel
theorem d_P_addPart_97 : decode prog_5_method_6_code 97 = .ok (.invokevirtual 59, 3) := by decide +kernel
theorem d_P_addPart_100 : decode prog_5_method_6_code 100 = .ok (.invokevirtual 63, 3) := by decide +kernel
theorem d_P_addPart_103 : decode prog_5_method_6_code 103 = .ok (.return_, 1) := by decide +kernel
theorem d_K_verify_0 : decode prog_1_method_18_code 0 = .ok (.iload_n 2, 1) := by decide +kernel
theorem d_K_verify_1 : decode prog_1_method_18_code 1 = .ok (.iconst 1, 1) := by decide +kernel
theorem d_K_verify_2 : decode prog_1_method_18_code 2 = .ok (.if_icmp .lt 22, 3) := by decide +kernel
theorem d_K_verify_5 : decode prog_1_method_18_code 5 = .ok (.iload_n 2, 1) := by decide +kernel
theorem d_K_verify_6 : decode prog_1_method_18_code 6 = .ok (.bipush 16, 2) := by decide +kernel
theorem d_K_verify_8 : decode prog_1_method_18_code 8 = .ok (.if_icmp .gt 16, 3) := by decide +kernel
theorem d_K_verify_11 : decode prog_1_method_18_code 11 = .ok (.iload_n 3, 1) := by decide +kernel
theorem d_K_verify_12 : decode prog_1_method_18_code 12 = .ok (.ifCond .lt 12, 3) := by decide +kernel
theorem d_K_verify_15 : decode prog_1_method_18_code 15 = .ok (.iload_n 3, 1) := by decide +kernel
theorem d_K_verify_16 : decode prog_1_method_18_code 16 = .ok (.iload_n 2, 1) := by decide +kernel
theorem d_K_verify_17 : decode prog_1_method_18_code 17 = .ok (.if_icmp .ge 7, 3) := by decide +kernel
theorem d_K_verify_20 : decode prog_1_method_18_code 20 = .ok (.iconst 1, 1) := by decide +kernel
theorem d_K_verify_21 : decode prog_1_method_18_code 21 = .ok (.goto 4, 3) := by decide +kernel
theorem d_K_verify_24 : decode prog_1_method_18_code 24 = .ok (.iconst 0, 1) := by decide +kernel
theorem d_K_verify_25 : decode prog_1_method_18_code 25 = .ok (.invokestatic 144, 3) := by decide +kernel
theorem d_K_verify_28 : decode prog_1_method_18_code 28 = .ok (.iload 4, 2) := by decide +kernel
