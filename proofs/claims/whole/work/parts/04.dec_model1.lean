theorem d_M_init_0 : decode prog_11_method_1_code 0 = .ok (.aload_n 0, 1) := by decide +kernel
theorem d_M_init_1 : decode prog_11_method_1_code 1 = .ok (.invokespecial 1, 3) := by decide +kernel
theorem d_M_init_4 : decode prog_11_method_1_code 4 = .ok (.aload_n 0, 1) := by decide +kernel
theorem d_M_init_5 : decode prog_11_method_1_code 5 = .ok (.sipush 816, 3) := by decide +kernel
theorem d_M_init_8 : decode prog_11_method_1_code 8 = .ok (.newarray .boolean, 2) := by decide +kernel
theorem d_M_init_10 : decode prog_11_method_1_code 10 = .ok (.putfield 7, 3) := by decide +kernel
theorem d_M_init_13 : decode prog_11_method_1_code 13 = .ok (.aload_n 0, 1) := by decide +kernel
theorem d_M_init_14 : decode prog_11_method_1_code 14 = .ok (.sipush 816, 3) := by decide +kernel
theorem d_M_init_17 : decode prog_11_method_1_code 17 = .ok (.newarray .int, 2) := by decide +kernel
theorem d_M_init_19 : decode prog_11_method_1_code 19 = .ok (.putfield 13, 3) := by decide +kernel
theorem d_M_init_22 : decode prog_11_method_1_code 22 = .ok (.aload_n 0, 1) := by decide +kernel
theorem d_M_init_23 : decode prog_11_method_1_code 23 = .ok (.bipush 16, 2) := by decide +kernel
theorem d_M_init_25 : decode prog_11_method_1_code 25 = .ok (.newarray .int, 2) := by decide +kernel
theorem d_M_init_27 : decode prog_11_method_1_code 27 = .ok (.putfield 17, 3) := by decide +kernel
theorem d_M_init_30 : decode prog_11_method_1_code 30 = .ok (.aload_n 0, 1) := by decide +kernel
theorem d_M_init_31 : decode prog_11_method_1_code 31 = .ok (.sipush 3400, 3) := by decide +kernel
theorem d_M_init_34 : decode prog_11_method_1_code 34 = .ok (.newarray .int, 2) := by decide +kernel
theorem d_M_init_36 : decode prog_11_method_1_code 36 = .ok (.putfield 20, 3) := by decide +kernel
theorem d_M_init_39 : decode prog_11_method_1_code 39 = .ok (.aload_n 0, 1) := by decide +kernel
theorem d_M_init_40 : decode prog_11_method_1_code 40 = .ok (.sipush 180, 3) := by decide +kernel
theorem d_M_init_43 : decode prog_11_method_1_code 43 = .ok (.newarray .long, 2) := by decide +kernel
theorem d_M_init_45 : decode prog_11_method_1_code 45 = .ok (.putfield 23, 3) := by decide +kernel
theorem d_M_init_48 : decode prog_11_method_1_code 48 = .ok (.aload_n 0, 1) := by decide +kernel
theorem d_M_init_49 : decode prog_11_method_1_code 49 = .ok (.sipush 8640, 3) := by decide +kernel
theorem d_M_init_52 : decode prog_11_method_1_code 52 = .ok (.newarray .int, 2) := by decide +kernel
theorem d_M_init_54 : decode prog_11_method_1_code 54 = .ok (.putfield 27, 3) := by decide +kernel
theorem d_M_init_57 : decode prog_11_method_1_code 57 = .ok (.aload_n 0, 1) := by decide +kernel
theorem d_M_init_58 : decode prog_11_method_1_code 58 = .ok (.bipush 8, 2) := by decide +kernel
theorem d_M_init_60 : decode prog_11_method_1_code 60 = .ok (.newarray .int, 2) := by decide +kernel
theorem d_M_init_62 : decode prog_11_method_1_code 62 = .ok (.putfield 30, 3) := by decide +kernel
theorem d_M_init_65 : decode prog_11_method_1_code 65 = .ok (.aload_n 0, 1) := by decide +kernel
theorem d_M_init_66 : decode prog_11_method_1_code 66 = .ok (.sipush 384, 3) := by decide +kernel
theorem d_M_init_69 : decode prog_11_method_1_code 69 = .ok (.newarray .int, 2) := by decide +kernel
theorem d_M_init_71 : decode prog_11_method_1_code 71 = .ok (.putfield 33, 3) := by decide +kernel
theorem d_M_init_74 : decode prog_11_method_1_code 74 = .ok (.aload_n 0, 1) := by decide +kernel
theorem d_M_init_75 : decode prog_11_method_1_code 75 = .ok (.sipush 384, 3) := by decide +kernel
theorem d_M_init_78 : decode prog_11_method_1_code 78 = .ok (.newarray .int, 2) := by decide +kernel
theorem d_M_init_80 : decode prog_11_method_1_code 80 = .ok (.putfield 36, 3) := by decide +kernel
theorem d_M_init_83 : decode prog_11_method_1_code 83 = .ok (.aload_n 0, 1) := by decide +kernel
theorem d_M_init_84 : decode prog_11_method_1_code 84 = .ok (.bipush 8, 2) := by decide +kernel
theorem d_M_init_86 : decode prog_11_method_1_code 86 = .ok (.newarray .int, 2) := by decide +kernel
theorem d_M_init_88 : decode prog_11_method_1_code 88 = .ok (.putfield 39, 3) := by decide +kernel
theorem d_M_init_91 : decode prog_11_method_1_code 91 = .ok (.aload_n 0, 1) := by decide +kernel
theorem d_M_init_92 : decode prog_11_method_1_code 92 = .ok (.bipush 8, 2) := by decide +kernel
theorem d_M_init_94 : decode prog_11_method_1_code 94 = .ok (.newarray .int, 2) := by decide +kernel
theorem d_M_init_96 : decode prog_11_method_1_code 96 = .ok (.putfield 42, 3) := by decide +kernel
theorem d_M_init_99 : decode prog_11_method_1_code 99 = .ok (.aload_n 0, 1) := by decide +kernel
theorem d_M_init_100 : decode prog_11_method_1_code 100 = .ok (.bipush 8, 2) := by decide +kernel
theorem d_M_init_102 : decode prog_11_method_1_code 102 = .ok (.newarray .int, 2) := by decide +kernel
theorem d_M_init_104 : decode prog_11_method_1_code 104 = .ok (.putfield 45, 3) := by decide +kernel
theorem d_M_init_107 : decode prog_11_method_1_code 107 = .ok (.aload_n 0, 1) := by decide +kernel
theorem d_M_init_108 : decode prog_11_method_1_code 108 = .ok (.bipush 8, 2) := by decide +kernel
theorem d_M_init_110 : decode prog_11_method_1_code 110 = .ok (.newarray .int, 2) := by decide +kernel
theorem d_M_init_112 : decode prog_11_method_1_code 112 = .ok (.putfield 48, 3) := by decide +kernel
theorem d_M_init_115 : decode prog_11_method_1_code 115 = .ok (.aload_n 0, 1) := by decide +kernel
theorem d_M_init_116 : decode prog_11_method_1_code 116 = .ok (.bipush 8, 2) := by decide +kernel
theorem d_M_init_118 : decode prog_11_method_1_code 118 = .ok (.newarray .boolean, 2) := by decide +kernel
theorem d_M_init_120 : decode prog_11_method_1_code 120 = .ok (.putfield 51, 3) := by decide +kernel
theorem d_M_init_123 : decode prog_11_method_1_code 123 = .ok (.aload_n 0, 1) := by decide +kernel
theorem d_M_init_124 : decode prog_11_method_1_code 124 = .ok (.sipush 420, 3) := by decide +kernel
theorem d_M_init_127 : decode prog_11_method_1_code 127 = .ok (.newarray .int, 2) := by decide +kernel
theorem d_M_init_129 : decode prog_11_method_1_code 129 = .ok (.putfield 54, 3) := by decide +kernel
theorem d_M_init_132 : decode prog_11_method_1_code 132 = .ok (.aload_n 0, 1) := by decide +kernel
theorem d_M_init_133 : decode prog_11_method_1_code 133 = .ok (.sipush 420, 3) := by decide +kernel
theorem d_M_init_136 : decode prog_11_method_1_code 136 = .ok (.newarray .int, 2) := by decide +kernel
theorem d_M_init_138 : decode prog_11_method_1_code 138 = .ok (.putfield 57, 3) := by decide +kernel
theorem d_M_init_141 : decode prog_11_method_1_code 141 = .ok (.aload_n 0, 1) := by decide +kernel
theorem d_M_init_142 : decode prog_11_method_1_code 142 = .ok (.bipush 16, 2) := by decide +kernel
theorem d_M_init_144 : decode prog_11_method_1_code 144 = .ok (.newarray .int, 2) := by decide +kernel
theorem d_M_init_146 : decode prog_11_method_1_code 146 = .ok (.putfield 60, 3) := by decide +kernel
theorem d_M_init_149 : decode prog_11_method_1_code 149 = .ok (.aload_n 0, 1) := by decide +kernel
theorem d_M_init_150 : decode prog_11_method_1_code 150 = .ok (.bipush 48, 2) := by decide +kernel
theorem d_M_init_152 : decode prog_11_method_1_code 152 = .ok (.newarray .int, 2) := by decide +kernel
theorem d_M_init_154 : decode prog_11_method_1_code 154 = .ok (.putfield 63, 3) := by decide +kernel
theorem d_M_init_157 : decode prog_11_method_1_code 157 = .ok (.aload_n 0, 1) := by decide +kernel
theorem d_M_init_158 : decode prog_11_method_1_code 158 = .ok (.bipush 48, 2) := by decide +kernel
theorem d_M_init_160 : decode prog_11_method_1_code 160 = .ok (.newarray .int, 2) := by decide +kernel
theorem d_M_init_162 : decode prog_11_method_1_code 162 = .ok (.putfield 66, 3) := by decide +kernel
theorem d_M_init_165 : decode prog_11_method_1_code 165 = .ok (.aload_n 0, 1) := by decide +kernel
theorem d_M_init_166 : decode prog_11_method_1_code 166 = .ok (.iconst 1, 1) := by decide +kernel
theorem d_M_init_167 : decode prog_11_method_1_code 167 = .ok (.putfield 69, 3) := by decide +kernel
theorem d_M_init_170 : decode prog_11_method_1_code 170 = .ok (.return_, 1) := by decide +kernel
theorem d_M_thrown_0 : decode prog_11_method_2_code 0 = .ok (.aload_n 0, 1) := by decide +kernel
theorem d_M_thrown_1 : decode prog_11_method_2_code 1 = .ok (.getfield 73, 3) := by decide +kernel
theorem d_M_thrown_4 : decode prog_11_method_2_code 4 = .ok (.ireturn, 1) := by decide +kernel
theorem d_M_put_0 : decode prog_11_method_12_code 0 = .ok (.aload_n 0, 1) := by decide +kernel
theorem d_M_put_1 : decode prog_11_method_12_code 1 = .ok (.aload_n 0, 1) := by decide +kernel
theorem d_M_put_2 : decode prog_11_method_12_code 2 = .ok (.iload_n 1, 1) := by decide +kernel
theorem d_M_put_3 : decode prog_11_method_12_code 3 = .ok (.invokevirtual 103, 3) := by decide +kernel
theorem d_M_put_6 : decode prog_11_method_12_code 6 = .ok (.putfield 73, 3) := by decide +kernel
theorem d_M_put_9 : decode prog_11_method_12_code 9 = .ok (.aload_n 0, 1) := by decide +kernel
theorem d_M_put_10 : decode prog_11_method_12_code 10 = .ok (.getfield 73, 3) := by decide +kernel
theorem d_M_put_13 : decode prog_11_method_12_code 13 = .ok (.ifCond .eq 4, 3) := by decide +kernel
theorem d_M_put_16 : decode prog_11_method_12_code 16 = .ok (.return_, 1) := by decide +kernel
theorem d_M_put_17 : decode prog_11_method_12_code 17 = .ok (.aload_n 0, 1) := by decide +kernel
theorem d_M_put_18 : decode prog_11_method_12_code 18 = .ok (.getfield 7, 3) := by decide +kernel
theorem d_M_put_21 : decode prog_11_method_12_code 21 = .ok (.sipush 768, 3) := by decide +kernel
theorem d_M_put_24 : decode prog_11_method_12_code 24 = .ok (.iload_n 1, 1) := by decide +kernel
theorem d_M_put_25 : decode prog_11_method_12_code 25 = .ok (.iadd, 1) := by decide +kernel
theorem d_M_put_26 : decode prog_11_method_12_code 26 = .ok (.iconst 1, 1) := by decide +kernel
theorem d_M_put_27 : decode prog_11_method_12_code 27 = .ok (.bastore, 1) := by decide +kernel
theorem d_M_put_28 : decode prog_11_method_12_code 28 = .ok (.aload_n 0, 1) := by decide +kernel
theorem d_M_put_29 : decode prog_11_method_12_code 29 = .ok (.getfield 13, 3) := by decide +kernel
theorem d_M_put_32 : decode prog_11_method_12_code 32 = .ok (.sipush 768, 3) := by decide +kernel
theorem d_M_put_35 : decode prog_11_method_12_code 35 = .ok (.iload_n 1, 1) := by decide +kernel
theorem d_M_put_36 : decode prog_11_method_12_code 36 = .ok (.iadd, 1) := by decide +kernel
theorem d_M_put_37 : decode prog_11_method_12_code 37 = .ok (.iload_n 2, 1) := by decide +kernel
theorem d_M_put_38 : decode prog_11_method_12_code 38 = .ok (.iastore, 1) := by decide +kernel
theorem d_M_put_39 : decode prog_11_method_12_code 39 = .ok (.return_, 1) := by decide +kernel
theorem d_M_keyed_0 : decode prog_11_method_11_code 0 = .ok (.iload_n 1, 1) := by decide +kernel
theorem d_M_keyed_1 : decode prog_11_method_11_code 1 = .ok (.iconst 0, 1) := by decide +kernel
theorem d_M_keyed_2 : decode prog_11_method_11_code 2 = .ok (.bipush 47, 2) := by decide +kernel
theorem d_M_keyed_4 : decode prog_11_method_11_code 4 = .ok (.invokestatic 99, 3) := by decide +kernel
theorem d_M_keyed_7 : decode prog_11_method_11_code 7 = .ok (.ifCond .eq 7, 3) := by decide +kernel
theorem d_M_keyed_10 : decode prog_11_method_11_code 10 = .ok (.iconst 1, 1) := by decide +kernel
theorem d_M_keyed_11 : decode prog_11_method_11_code 11 = .ok (.goto 17, 3) := by decide +kernel
theorem d_M_keyed_14 : decode prog_11_method_11_code 14 = .ok (.aload_n 0, 1) := by decide +kernel
theorem d_M_keyed_15 : decode prog_11_method_11_code 15 = .ok (.getfield 69, 3) := by decide +kernel
theorem d_M_keyed_18 : decode prog_11_method_11_code 18 = .ok (.bipush 16, 2) := by decide +kernel
theorem d_M_keyed_20 : decode prog_11_method_11_code 20 = .ok (.if_icmp .ne 7, 3) := by decide +kernel
theorem d_M_keyed_23 : decode prog_11_method_11_code 23 = .ok (.iconst 2, 1) := by decide +kernel
theorem d_M_keyed_24 : decode prog_11_method_11_code 24 = .ok (.goto 4, 3) := by decide +kernel
theorem d_M_keyed_27 : decode prog_11_method_11_code 27 = .ok (.iconst 0, 1) := by decide +kernel
theorem d_M_keyed_28 : decode prog_11_method_11_code 28 = .ok (.ireturn, 1) := by decide +kernel
theorem d_M_outside_0 : decode prog_11_method_4_code 0 = .ok (.iload_n 0, 1) := by decide +kernel
theorem d_M_outside_1 : decode prog_11_method_4_code 1 = .ok (.iload_n 1, 1) := by decide +kernel
theorem d_M_outside_2 : decode prog_11_method_4_code 2 = .ok (.if_icmp .lt 8, 3) := by decide +kernel
theorem d_M_outside_5 : decode prog_11_method_4_code 5 = .ok (.iload_n 0, 1) := by decide +kernel
theorem d_M_outside_6 : decode prog_11_method_4_code 6 = .ok (.iload_n 2, 1) := by decide +kernel
theorem d_M_outside_7 : decode prog_11_method_4_code 7 = .ok (.if_icmp .le 7, 3) := by decide +kernel
theorem d_M_outside_10 : decode prog_11_method_4_code 10 = .ok (.iconst 1, 1) := by decide +kernel
theorem d_M_outside_11 : decode prog_11_method_4_code 11 = .ok (.goto 4, 3) := by decide +kernel
theorem d_M_outside_14 : decode prog_11_method_4_code 14 = .ok (.iconst 0, 1) := by decide +kernel
theorem d_M_outside_15 : decode prog_11_method_4_code 15 = .ok (.ireturn, 1) := by decide +kernel
theorem d_M_delete_0 : decode prog_11_method_13_code 0 = .ok (.aload_n 0, 1) := by decide +kernel
theorem d_M_delete_1 : decode prog_11_method_13_code 1 = .ok (.aload_n 0, 1) := by decide +kernel
theorem d_M_delete_2 : decode prog_11_method_13_code 2 = .ok (.iload_n 1, 1) := by decide +kernel
theorem d_M_delete_3 : decode prog_11_method_13_code 3 = .ok (.invokevirtual 103, 3) := by decide +kernel
theorem d_M_delete_6 : decode prog_11_method_13_code 6 = .ok (.putfield 73, 3) := by decide +kernel
theorem d_M_delete_9 : decode prog_11_method_13_code 9 = .ok (.aload_n 0, 1) := by decide +kernel
theorem d_M_delete_10 : decode prog_11_method_13_code 10 = .ok (.getfield 73, 3) := by decide +kernel
theorem d_M_delete_13 : decode prog_11_method_13_code 13 = .ok (.ifCond .eq 5, 3) := by decide +kernel
theorem d_M_delete_16 : decode prog_11_method_13_code 16 = .ok (.iconst 0, 1) := by decide +kernel
theorem d_M_delete_17 : decode prog_11_method_13_code 17 = .ok (.ireturn, 1) := by decide +kernel
theorem d_M_delete_18 : decode prog_11_method_13_code 18 = .ok (.aload_n 0, 1) := by decide +kernel
theorem d_M_delete_19 : decode prog_11_method_13_code 19 = .ok (.getfield 7, 3) := by decide +kernel
theorem d_M_delete_22 : decode prog_11_method_13_code 22 = .ok (.sipush 768, 3) := by decide +kernel
theorem d_M_delete_25 : decode prog_11_method_13_code 25 = .ok (.iload_n 1, 1) := by decide +kernel
theorem d_M_delete_26 : decode prog_11_method_13_code 26 = .ok (.iadd, 1) := by decide +kernel
theorem d_M_delete_27 : decode prog_11_method_13_code 27 = .ok (.baload, 1) := by decide +kernel
theorem d_M_delete_28 : decode prog_11_method_13_code 28 = .ok (.istore_n 2, 1) := by decide +kernel
theorem d_M_delete_29 : decode prog_11_method_13_code 29 = .ok (.aload_n 0, 1) := by decide +kernel
theorem d_M_delete_30 : decode prog_11_method_13_code 30 = .ok (.getfield 7, 3) := by decide +kernel
theorem d_M_delete_33 : decode prog_11_method_13_code 33 = .ok (.sipush 768, 3) := by decide +kernel
theorem d_M_delete_36 : decode prog_11_method_13_code 36 = .ok (.iload_n 1, 1) := by decide +kernel
theorem d_M_delete_37 : decode prog_11_method_13_code 37 = .ok (.iadd, 1) := by decide +kernel
theorem d_M_delete_38 : decode prog_11_method_13_code 38 = .ok (.iconst 0, 1) := by decide +kernel
theorem d_M_delete_39 : decode prog_11_method_13_code 39 = .ok (.bastore, 1) := by decide +kernel
theorem d_M_delete_40 : decode prog_11_method_13_code 40 = .ok (.iload_n 2, 1) := by decide +kernel
theorem d_M_delete_41 : decode prog_11_method_13_code 41 = .ok (.ireturn, 1) := by decide +kernel
theorem d_M_rollback_0 : decode prog_11_method_15_code 0 = .ok (.aload_n 0, 1) := by decide +kernel
theorem d_M_rollback_1 : decode prog_11_method_15_code 1 = .ok (.iconst 0, 1) := by decide +kernel
theorem d_M_rollback_2 : decode prog_11_method_15_code 2 = .ok (.putfield 73, 3) := by decide +kernel
theorem d_M_rollback_5 : decode prog_11_method_15_code 5 = .ok (.aload_n 0, 1) := by decide +kernel
theorem d_M_rollback_6 : decode prog_11_method_15_code 6 = .ok (.aload_n 0, 1) := by decide +kernel
theorem d_M_rollback_7 : decode prog_11_method_15_code 7 = .ok (.getfield 69, 3) := by decide +kernel
theorem d_M_rollback_10 : decode prog_11_method_15_code 10 = .ok (.iconst 1, 1) := by decide +kernel
theorem d_M_rollback_11 : decode prog_11_method_15_code 11 = .ok (.isub, 1) := by decide +kernel
theorem d_M_rollback_12 : decode prog_11_method_15_code 12 = .ok (.bipush 16, 2) := by decide +kernel
theorem d_M_rollback_14 : decode prog_11_method_15_code 14 = .ok (.invokevirtual 107, 3) := by decide +kernel
theorem d_M_rollback_17 : decode prog_11_method_15_code 17 = .ok (.return_, 1) := by decide +kernel
theorem d_M_copy_0 : decode prog_11_method_14_code 0 = .ok (.iconst 0, 1) := by decide +kernel
theorem d_M_copy_1 : decode prog_11_method_14_code 1 = .ok (.istore_n 3, 1) := by decide +kernel
theorem d_M_copy_2 : decode prog_11_method_14_code 2 = .ok (.iload_n 3, 1) := by decide +kernel
theorem d_M_copy_3 : decode prog_11_method_14_code 3 = .ok (.bipush 48, 2) := by decide +kernel
theorem d_M_copy_5 : decode prog_11_method_14_code 5 = .ok (.if_icmp .ge 53, 3) := by decide +kernel
theorem d_M_copy_8 : decode prog_11_method_14_code 8 = .ok (.aload_n 0, 1) := by decide +kernel
theorem d_M_copy_9 : decode prog_11_method_14_code 9 = .ok (.getfield 7, 3) := by decide +kernel
theorem d_M_copy_12 : decode prog_11_method_14_code 12 = .ok (.bipush 48, 2) := by decide +kernel
theorem d_M_copy_14 : decode prog_11_method_14_code 14 = .ok (.iload_n 2, 1) := by decide +kernel
theorem d_M_copy_15 : decode prog_11_method_14_code 15 = .ok (.imul, 1) := by decide +kernel
theorem d_M_copy_16 : decode prog_11_method_14_code 16 = .ok (.iload_n 3, 1) := by decide +kernel
theorem d_M_copy_17 : decode prog_11_method_14_code 17 = .ok (.iadd, 1) := by decide +kernel
theorem d_M_copy_18 : decode prog_11_method_14_code 18 = .ok (.aload_n 0, 1) := by decide +kernel
theorem d_M_copy_19 : decode prog_11_method_14_code 19 = .ok (.getfield 7, 3) := by decide +kernel
theorem d_M_copy_22 : decode prog_11_method_14_code 22 = .ok (.bipush 48, 2) := by decide +kernel
theorem d_M_copy_24 : decode prog_11_method_14_code 24 = .ok (.iload_n 1, 1) := by decide +kernel
theorem d_M_copy_25 : decode prog_11_method_14_code 25 = .ok (.imul, 1) := by decide +kernel
theorem d_M_copy_26 : decode prog_11_method_14_code 26 = .ok (.iload_n 3, 1) := by decide +kernel
theorem d_M_copy_27 : decode prog_11_method_14_code 27 = .ok (.iadd, 1) := by decide +kernel
theorem d_M_copy_28 : decode prog_11_method_14_code 28 = .ok (.baload, 1) := by decide +kernel
theorem d_M_copy_29 : decode prog_11_method_14_code 29 = .ok (.bastore, 1) := by decide +kernel
theorem d_M_copy_30 : decode prog_11_method_14_code 30 = .ok (.aload_n 0, 1) := by decide +kernel
theorem d_M_copy_31 : decode prog_11_method_14_code 31 = .ok (.getfield 13, 3) := by decide +kernel
theorem d_M_copy_34 : decode prog_11_method_14_code 34 = .ok (.bipush 48, 2) := by decide +kernel
theorem d_M_copy_36 : decode prog_11_method_14_code 36 = .ok (.iload_n 2, 1) := by decide +kernel
theorem d_M_copy_37 : decode prog_11_method_14_code 37 = .ok (.imul, 1) := by decide +kernel
theorem d_M_copy_38 : decode prog_11_method_14_code 38 = .ok (.iload_n 3, 1) := by decide +kernel
theorem d_M_copy_39 : decode prog_11_method_14_code 39 = .ok (.iadd, 1) := by decide +kernel
theorem d_M_copy_40 : decode prog_11_method_14_code 40 = .ok (.aload_n 0, 1) := by decide +kernel
theorem d_M_copy_41 : decode prog_11_method_14_code 41 = .ok (.getfield 13, 3) := by decide +kernel
theorem d_M_copy_44 : decode prog_11_method_14_code 44 = .ok (.bipush 48, 2) := by decide +kernel
theorem d_M_copy_46 : decode prog_11_method_14_code 46 = .ok (.iload_n 1, 1) := by decide +kernel
theorem d_M_copy_47 : decode prog_11_method_14_code 47 = .ok (.imul, 1) := by decide +kernel
theorem d_M_copy_48 : decode prog_11_method_14_code 48 = .ok (.iload_n 3, 1) := by decide +kernel
theorem d_M_copy_49 : decode prog_11_method_14_code 49 = .ok (.iadd, 1) := by decide +kernel
theorem d_M_copy_50 : decode prog_11_method_14_code 50 = .ok (.iaload, 1) := by decide +kernel
theorem d_M_copy_51 : decode prog_11_method_14_code 51 = .ok (.iastore, 1) := by decide +kernel
theorem d_M_copy_52 : decode prog_11_method_14_code 52 = .ok (.iinc 3 1, 3) := by decide +kernel
theorem d_M_copy_55 : decode prog_11_method_14_code 55 = .ok (.goto (-53), 3) := by decide +kernel
theorem d_M_copy_58 : decode prog_11_method_14_code 58 = .ok (.return_, 1) := by decide +kernel
theorem d_M_commit_0 : decode prog_11_method_21_code 0 = .ok (.aload_n 0, 1) := by decide +kernel
theorem d_M_commit_1 : decode prog_11_method_21_code 1 = .ok (.getfield 69, 3) := by decide +kernel
theorem d_M_commit_4 : decode prog_11_method_21_code 4 = .ok (.bipush 16, 2) := by decide +kernel
theorem d_M_commit_6 : decode prog_11_method_21_code 6 = .ok (.if_icmp .ne 9, 3) := by decide +kernel
theorem d_M_commit_9 : decode prog_11_method_21_code 9 = .ok (.aload_n 0, 1) := by decide +kernel
theorem d_M_commit_10 : decode prog_11_method_21_code 10 = .ok (.iconst 1, 1) := by decide +kernel
theorem d_M_commit_11 : decode prog_11_method_21_code 11 = .ok (.invokevirtual 130, 3) := by decide +kernel
theorem d_M_commit_14 : decode prog_11_method_21_code 14 = .ok (.ireturn, 1) := by decide +kernel
theorem d_M_commit_15 : decode prog_11_method_21_code 15 = .ok (.aload_n 0, 1) := by decide +kernel
theorem d_M_commit_16 : decode prog_11_method_21_code 16 = .ok (.iconst 0, 1) := by decide +kernel
theorem d_M_commit_17 : decode prog_11_method_21_code 17 = .ok (.putfield 73, 3) := by decide +kernel
theorem d_M_commit_20 : decode prog_11_method_21_code 20 = .ok (.aload_n 0, 1) := by decide +kernel
theorem d_M_commit_21 : decode prog_11_method_21_code 21 = .ok (.bipush 16, 2) := by decide +kernel
theorem d_M_commit_23 : decode prog_11_method_21_code 23 = .ok (.invokevirtual 133, 3) := by decide +kernel
theorem d_M_commit_26 : decode prog_11_method_21_code 26 = .ok (.istore_n 1, 1) := by decide +kernel
theorem d_M_commit_27 : decode prog_11_method_21_code 27 = .ok (.aload_n 0, 1) := by decide +kernel
theorem d_M_commit_28 : decode prog_11_method_21_code 28 = .ok (.invokevirtual 136, 3) := by decide +kernel
theorem d_M_commit_31 : decode prog_11_method_21_code 31 = .ok (.aload_n 0, 1) := by decide +kernel
theorem d_M_commit_32 : decode prog_11_method_21_code 32 = .ok (.getfield 111, 3) := by decide +kernel
theorem d_M_commit_35 : decode prog_11_method_21_code 35 = .ok (.istore_n 2, 1) := by decide +kernel
theorem d_M_commit_36 : decode prog_11_method_21_code 36 = .ok (.aload_n 0, 1) := by decide +kernel
theorem d_M_commit_37 : decode prog_11_method_21_code 37 = .ok (.invokevirtual 139, 3) := by decide +kernel
theorem d_M_commit_40 : decode prog_11_method_21_code 40 = .ok (.istore_n 3, 1) := by decide +kernel
theorem d_M_commit_41 : decode prog_11_method_21_code 41 = .ok (.aload_n 0, 1) := by decide +kernel
theorem d_M_commit_42 : decode prog_11_method_21_code 42 = .ok (.aload_n 0, 1) := by decide +kernel
theorem d_M_commit_43 : decode prog_11_method_21_code 43 = .ok (.getfield 111, 3) := by decide +kernel
theorem d_M_commit_46 : decode prog_11_method_21_code 46 = .ok (.iload_n 2, 1) := by decide +kernel
theorem d_M_commit_47 : decode prog_11_method_21_code 47 = .ok (.if_icmp .le 12, 3) := by decide +kernel
theorem d_M_commit_50 : decode prog_11_method_21_code 50 = .ok (.aload_n 0, 1) := by decide +kernel
theorem d_M_commit_51 : decode prog_11_method_21_code 51 = .ok (.getfield 117, 3) := by decide +kernel
theorem d_M_commit_54 : decode prog_11_method_21_code 54 = .ok (.iconst 1, 1) := by decide +kernel
theorem d_M_commit_55 : decode prog_11_method_21_code 55 = .ok (.iadd, 1) := by decide +kernel
theorem d_M_commit_56 : decode prog_11_method_21_code 56 = .ok (.goto 7, 3) := by decide +kernel
theorem d_M_commit_59 : decode prog_11_method_21_code 59 = .ok (.aload_n 0, 1) := by decide +kernel
theorem d_M_commit_60 : decode prog_11_method_21_code 60 = .ok (.getfield 117, 3) := by decide +kernel
theorem d_M_commit_63 : decode prog_11_method_21_code 63 = .ok (.putfield 117, 3) := by decide +kernel
theorem d_M_commit_66 : decode prog_11_method_21_code 66 = .ok (.iload_n 3, 1) := by decide +kernel
theorem d_M_commit_67 : decode prog_11_method_21_code 67 = .ok (.ifCond .ne 17, 3) := by decide +kernel
theorem d_M_commit_70 : decode prog_11_method_21_code 70 = .ok (.aload_n 0, 1) := by decide +kernel
theorem d_M_commit_71 : decode prog_11_method_21_code 71 = .ok (.aload_n 0, 1) := by decide +kernel
theorem d_M_commit_72 : decode prog_11_method_21_code 72 = .ok (.getfield 69, 3) := by decide +kernel
theorem d_M_commit_75 : decode prog_11_method_21_code 75 = .ok (.iconst 1, 1) := by decide +kernel
theorem d_M_commit_76 : decode prog_11_method_21_code 76 = .ok (.isub, 1) := by decide +kernel
theorem d_M_commit_77 : decode prog_11_method_21_code 77 = .ok (.bipush 16, 2) := by decide +kernel
theorem d_M_commit_79 : decode prog_11_method_21_code 79 = .ok (.invokevirtual 107, 3) := by decide +kernel
theorem d_M_commit_82 : decode prog_11_method_21_code 82 = .ok (.iconst (-1), 1) := by decide +kernel
theorem d_M_commit_83 : decode prog_11_method_21_code 83 = .ok (.ireturn, 1) := by decide +kernel
theorem d_M_commit_84 : decode prog_11_method_21_code 84 = .ok (.aload_n 0, 1) := by decide +kernel
theorem d_M_commit_85 : decode prog_11_method_21_code 85 = .ok (.bipush 16, 2) := by decide +kernel
theorem d_M_commit_87 : decode prog_11_method_21_code 87 = .ok (.aload_n 0, 1) := by decide +kernel
theorem d_M_commit_88 : decode prog_11_method_21_code 88 = .ok (.getfield 69, 3) := by decide +kernel
theorem d_M_commit_91 : decode prog_11_method_21_code 91 = .ok (.invokevirtual 107, 3) := by decide +kernel
theorem d_M_commit_94 : decode prog_11_method_21_code 94 = .ok (.aload_n 0, 1) := by decide +kernel
theorem d_M_commit_95 : decode prog_11_method_21_code 95 = .ok (.getfield 17, 3) := by decide +kernel
theorem d_M_commit_98 : decode prog_11_method_21_code 98 = .ok (.aload_n 0, 1) := by decide +kernel
theorem d_M_commit_99 : decode prog_11_method_21_code 99 = .ok (.getfield 69, 3) := by decide +kernel
theorem d_M_commit_102 : decode prog_11_method_21_code 102 = .ok (.iload_n 1, 1) := by decide +kernel
theorem d_M_commit_103 : decode prog_11_method_21_code 103 = .ok (.iastore, 1) := by decide +kernel
theorem d_M_commit_104 : decode prog_11_method_21_code 104 = .ok (.aload_n 0, 1) := by decide +kernel
theorem d_M_commit_105 : decode prog_11_method_21_code 105 = .ok (.dup, 1) := by decide +kernel
theorem d_M_commit_106 : decode prog_11_method_21_code 106 = .ok (.getfield 69, 3) := by decide +kernel
theorem d_M_commit_109 : decode prog_11_method_21_code 109 = .ok (.iconst 1, 1) := by decide +kernel
theorem d_M_commit_110 : decode prog_11_method_21_code 110 = .ok (.iadd, 1) := by decide +kernel
theorem d_M_commit_111 : decode prog_11_method_21_code 111 = .ok (.putfield 69, 3) := by decide +kernel
theorem d_M_commit_114 : decode prog_11_method_21_code 114 = .ok (.aload_n 0, 1) := by decide +kernel
theorem d_M_commit_115 : decode prog_11_method_21_code 115 = .ok (.getfield 69, 3) := by decide +kernel
theorem d_M_commit_118 : decode prog_11_method_21_code 118 = .ok (.iconst 1, 1) := by decide +kernel
theorem d_M_commit_119 : decode prog_11_method_21_code 119 = .ok (.isub, 1) := by decide +kernel
theorem d_M_commit_120 : decode prog_11_method_21_code 120 = .ok (.ireturn, 1) := by decide +kernel
theorem d_M_refuse_0 : decode prog_11_method_3_code 0 = .ok (.aload_n 0, 1) := by decide +kernel
theorem d_M_refuse_1 : decode prog_11_method_3_code 1 = .ok (.iload_n 1, 1) := by decide +kernel
theorem d_M_refuse_2 : decode prog_11_method_3_code 2 = .ok (.putfield 73, 3) := by decide +kernel
theorem d_M_refuse_5 : decode prog_11_method_3_code 5 = .ok (.iconst 0, 1) := by decide +kernel
theorem d_M_refuse_6 : decode prog_11_method_3_code 6 = .ok (.ireturn, 1) := by decide +kernel
theorem d_M_raise_0 : decode prog_11_method_10_code 0 = .ok (.aload_n 0, 1) := by decide +kernel
theorem d_M_raise_1 : decode prog_11_method_10_code 1 = .ok (.getfield 30, 3) := by decide +kernel
theorem d_M_raise_4 : decode prog_11_method_10_code 4 = .ok (.iconst 0, 1) := by decide +kernel
theorem d_M_raise_5 : decode prog_11_method_10_code 5 = .ok (.iconst 0, 1) := by decide +kernel
theorem d_M_raise_6 : decode prog_11_method_10_code 6 = .ok (.iastore, 1) := by decide +kernel
theorem d_M_raise_7 : decode prog_11_method_10_code 7 = .ok (.iconst 0, 1) := by decide +kernel
theorem d_M_raise_8 : decode prog_11_method_10_code 8 = .ok (.istore_n 2, 1) := by decide +kernel
theorem d_M_raise_9 : decode prog_11_method_10_code 9 = .ok (.iload_n 2, 1) := by decide +kernel
theorem d_M_raise_10 : decode prog_11_method_10_code 10 = .ok (.bipush 48, 2) := by decide +kernel
theorem d_M_raise_12 : decode prog_11_method_10_code 12 = .ok (.if_icmp .ge 40, 3) := by decide +kernel
theorem d_M_raise_15 : decode prog_11_method_10_code 15 = .ok (.aload_n 0, 1) := by decide +kernel
theorem d_M_raise_16 : decode prog_11_method_10_code 16 = .ok (.getfield 7, 3) := by decide +kernel
theorem d_M_raise_19 : decode prog_11_method_10_code 19 = .ok (.bipush 48, 2) := by decide +kernel
theorem d_M_raise_21 : decode prog_11_method_10_code 21 = .ok (.iload_n 1, 1) := by decide +kernel
theorem d_M_raise_22 : decode prog_11_method_10_code 22 = .ok (.imul, 1) := by decide +kernel
theorem d_M_raise_23 : decode prog_11_method_10_code 23 = .ok (.iload_n 2, 1) := by decide +kernel
theorem d_M_raise_24 : decode prog_11_method_10_code 24 = .ok (.iadd, 1) := by decide +kernel
theorem d_M_raise_25 : decode prog_11_method_10_code 25 = .ok (.baload, 1) := by decide +kernel
theorem d_M_raise_26 : decode prog_11_method_10_code 26 = .ok (.ifCond .eq 20, 3) := by decide +kernel
theorem d_M_raise_29 : decode prog_11_method_10_code 29 = .ok (.aload_n 0, 1) := by decide +kernel
theorem d_M_raise_30 : decode prog_11_method_10_code 30 = .ok (.iconst 0, 1) := by decide +kernel
theorem d_M_raise_31 : decode prog_11_method_10_code 31 = .ok (.iload_n 2, 1) := by decide +kernel
theorem d_M_raise_32 : decode prog_11_method_10_code 32 = .ok (.aload_n 0, 1) := by decide +kernel
theorem d_M_raise_33 : decode prog_11_method_10_code 33 = .ok (.getfield 13, 3) := by decide +kernel
theorem d_M_raise_36 : decode prog_11_method_10_code 36 = .ok (.bipush 48, 2) := by decide +kernel
theorem d_M_raise_38 : decode prog_11_method_10_code 38 = .ok (.iload_n 1, 1) := by decide +kernel
theorem d_M_raise_39 : decode prog_11_method_10_code 39 = .ok (.imul, 1) := by decide +kernel
theorem d_M_raise_40 : decode prog_11_method_10_code 40 = .ok (.iload_n 2, 1) := by decide +kernel
theorem d_M_raise_41 : decode prog_11_method_10_code 41 = .ok (.iadd, 1) := by decide +kernel
theorem d_M_raise_42 : decode prog_11_method_10_code 42 = .ok (.iaload, 1) := by decide +kernel
theorem d_M_raise_43 : decode prog_11_method_10_code 43 = .ok (.invokevirtual 85, 3) := by decide +kernel
theorem d_M_raise_46 : decode prog_11_method_10_code 46 = .ok (.iinc 2 1, 3) := by decide +kernel
theorem d_M_raise_49 : decode prog_11_method_10_code 49 = .ok (.goto (-40), 3) := by decide +kernel
theorem d_M_raise_52 : decode prog_11_method_10_code 52 = .ok (.aload_n 0, 1) := by decide +kernel
theorem d_M_raise_53 : decode prog_11_method_10_code 53 = .ok (.aload_n 0, 1) := by decide +kernel
theorem d_M_raise_54 : decode prog_11_method_10_code 54 = .ok (.getfield 30, 3) := by decide +kernel
theorem d_M_raise_57 : decode prog_11_method_10_code 57 = .ok (.iconst 0, 1) := by decide +kernel
theorem d_M_raise_58 : decode prog_11_method_10_code 58 = .ok (.iaload, 1) := by decide +kernel
theorem d_M_raise_59 : decode prog_11_method_10_code 59 = .ok (.ifCond .ne 7, 3) := by decide +kernel
theorem d_M_raise_62 : decode prog_11_method_10_code 62 = .ok (.iconst 0, 1) := by decide +kernel
theorem d_M_raise_63 : decode prog_11_method_10_code 63 = .ok (.goto 4, 3) := by decide +kernel
theorem d_M_raise_66 : decode prog_11_method_10_code 66 = .ok (.iconst 1, 1) := by decide +kernel
theorem d_M_raise_67 : decode prog_11_method_10_code 67 = .ok (.putfield 89, 3) := by decide +kernel
theorem d_M_raise_70 : decode prog_11_method_10_code 70 = .ok (.aload_n 0, 1) := by decide +kernel
theorem d_M_raise_71 : decode prog_11_method_10_code 71 = .ok (.getfield 89, 3) := by decide +kernel
theorem d_M_raise_74 : decode prog_11_method_10_code 74 = .ok (.ifCond .le 123, 3) := by decide +kernel
theorem d_M_raise_77 : decode prog_11_method_10_code 77 = .ok (.aload_n 0, 1) := by decide +kernel
theorem d_M_raise_78 : decode prog_11_method_10_code 78 = .ok (.getfield 89, 3) := by decide +kernel
theorem d_M_raise_81 : decode prog_11_method_10_code 81 = .ok (.bipush 8, 2) := by decide +kernel
theorem d_M_raise_83 : decode prog_11_method_10_code 83 = .ok (.if_icmp .ge 114, 3) := by decide +kernel
theorem d_M_raise_86 : decode prog_11_method_10_code 86 = .ok (.aload_n 0, 1) := by decide +kernel
theorem d_M_raise_87 : decode prog_11_method_10_code 87 = .ok (.aload_n 0, 1) := by decide +kernel
theorem d_M_raise_88 : decode prog_11_method_10_code 88 = .ok (.getfield 89, 3) := by decide +kernel
theorem d_M_raise_91 : decode prog_11_method_10_code 91 = .ok (.iconst 1, 1) := by decide +kernel
theorem d_M_raise_92 : decode prog_11_method_10_code 92 = .ok (.isub, 1) := by decide +kernel
theorem d_M_raise_93 : decode prog_11_method_10_code 93 = .ok (.iconst 0, 1) := by decide +kernel
theorem d_M_raise_94 : decode prog_11_method_10_code 94 = .ok (.invokevirtual 92, 3) := by decide +kernel
theorem d_M_raise_97 : decode prog_11_method_10_code 97 = .ok (.aload_n 0, 1) := by decide +kernel
theorem d_M_raise_98 : decode prog_11_method_10_code 98 = .ok (.getfield 30, 3) := by decide +kernel
theorem d_M_raise_101 : decode prog_11_method_10_code 101 = .ok (.aload_n 0, 1) := by decide +kernel
theorem d_M_raise_102 : decode prog_11_method_10_code 102 = .ok (.getfield 89, 3) := by decide +kernel
theorem d_M_raise_105 : decode prog_11_method_10_code 105 = .ok (.iconst 1, 1) := by decide +kernel
theorem d_M_raise_106 : decode prog_11_method_10_code 106 = .ok (.isub, 1) := by decide +kernel
theorem d_M_raise_107 : decode prog_11_method_10_code 107 = .ok (.iaload, 1) := by decide +kernel
theorem d_M_raise_108 : decode prog_11_method_10_code 108 = .ok (.if_icmp .ge 89, 3) := by decide +kernel
theorem d_M_raise_111 : decode prog_11_method_10_code 111 = .ok (.aload_n 0, 1) := by decide +kernel
theorem d_M_raise_112 : decode prog_11_method_10_code 112 = .ok (.getfield 89, 3) := by decide +kernel
theorem d_M_raise_115 : decode prog_11_method_10_code 115 = .ok (.iconst 1, 1) := by decide +kernel
theorem d_M_raise_116 : decode prog_11_method_10_code 116 = .ok (.isub, 1) := by decide +kernel
theorem d_M_raise_117 : decode prog_11_method_10_code 117 = .ok (.istore_n 2, 1) := by decide +kernel
theorem d_M_raise_118 : decode prog_11_method_10_code 118 = .ok (.aload_n 0, 1) := by decide +kernel
theorem d_M_raise_119 : decode prog_11_method_10_code 119 = .ok (.getfield 30, 3) := by decide +kernel
theorem d_M_raise_122 : decode prog_11_method_10_code 122 = .ok (.aload_n 0, 1) := by decide +kernel
theorem d_M_raise_123 : decode prog_11_method_10_code 123 = .ok (.getfield 89, 3) := by decide +kernel
theorem d_M_raise_126 : decode prog_11_method_10_code 126 = .ok (.iconst 0, 1) := by decide +kernel
theorem d_M_raise_127 : decode prog_11_method_10_code 127 = .ok (.iastore, 1) := by decide +kernel
theorem d_M_raise_128 : decode prog_11_method_10_code 128 = .ok (.iconst 0, 1) := by decide +kernel
theorem d_M_raise_129 : decode prog_11_method_10_code 129 = .ok (.istore_n 3, 1) := by decide +kernel
theorem d_M_raise_130 : decode prog_11_method_10_code 130 = .ok (.iload_n 3, 1) := by decide +kernel
theorem d_M_raise_131 : decode prog_11_method_10_code 131 = .ok (.aload_n 0, 1) := by decide +kernel
theorem d_M_raise_132 : decode prog_11_method_10_code 132 = .ok (.getfield 30, 3) := by decide +kernel
theorem d_M_raise_135 : decode prog_11_method_10_code 135 = .ok (.iload_n 2, 1) := by decide +kernel
theorem d_M_raise_136 : decode prog_11_method_10_code 136 = .ok (.iaload, 1) := by decide +kernel
theorem d_M_raise_137 : decode prog_11_method_10_code 137 = .ok (.if_icmp .ge 47, 3) := by decide +kernel
theorem d_M_raise_140 : decode prog_11_method_10_code 140 = .ok (.aload_n 0, 1) := by decide +kernel
theorem d_M_raise_141 : decode prog_11_method_10_code 141 = .ok (.iload_n 2, 1) := by decide +kernel
theorem d_M_raise_142 : decode prog_11_method_10_code 142 = .ok (.iload_n 3, 1) := by decide +kernel
theorem d_M_raise_143 : decode prog_11_method_10_code 143 = .ok (.invokevirtual 92, 3) := by decide +kernel
theorem d_M_raise_146 : decode prog_11_method_10_code 146 = .ok (.istore 4, 2) := by decide +kernel
theorem d_M_raise_148 : decode prog_11_method_10_code 148 = .ok (.aload_n 0, 1) := by decide +kernel
theorem d_M_raise_149 : decode prog_11_method_10_code 149 = .ok (.aload_n 0, 1) := by decide +kernel
theorem d_M_raise_150 : decode prog_11_method_10_code 150 = .ok (.getfield 89, 3) := by decide +kernel
theorem d_M_raise_153 : decode prog_11_method_10_code 153 = .ok (.aload_n 0, 1) := by decide +kernel
theorem d_M_raise_154 : decode prog_11_method_10_code 154 = .ok (.getfield 33, 3) := by decide +kernel
theorem d_M_raise_157 : decode prog_11_method_10_code 157 = .ok (.bipush 48, 2) := by decide +kernel
theorem d_M_raise_159 : decode prog_11_method_10_code 159 = .ok (.iload_n 2, 1) := by decide +kernel
theorem d_M_raise_160 : decode prog_11_method_10_code 160 = .ok (.imul, 1) := by decide +kernel
theorem d_M_raise_161 : decode prog_11_method_10_code 161 = .ok (.iload 4, 2) := by decide +kernel
theorem d_M_raise_163 : decode prog_11_method_10_code 163 = .ok (.iadd, 1) := by decide +kernel
theorem d_M_raise_164 : decode prog_11_method_10_code 164 = .ok (.iconst 1, 1) := by decide +kernel
theorem d_M_raise_165 : decode prog_11_method_10_code 165 = .ok (.isub, 1) := by decide +kernel
theorem d_M_raise_166 : decode prog_11_method_10_code 166 = .ok (.iaload, 1) := by decide +kernel
theorem d_M_raise_167 : decode prog_11_method_10_code 167 = .ok (.aload_n 0, 1) := by decide +kernel
theorem d_M_raise_168 : decode prog_11_method_10_code 168 = .ok (.iload_n 2, 1) := by decide +kernel
theorem d_M_raise_169 : decode prog_11_method_10_code 169 = .ok (.iload_n 3, 1) := by decide +kernel
theorem d_M_raise_170 : decode prog_11_method_10_code 170 = .ok (.iload 4, 2) := by decide +kernel
theorem d_M_raise_172 : decode prog_11_method_10_code 172 = .ok (.invokevirtual 95, 3) := by decide +kernel
theorem d_M_raise_175 : decode prog_11_method_10_code 175 = .ok (.invokevirtual 85, 3) := by decide +kernel
theorem d_M_raise_178 : decode prog_11_method_10_code 178 = .ok (.iload 4, 2) := by decide +kernel
theorem d_M_raise_180 : decode prog_11_method_10_code 180 = .ok (.istore_n 3, 1) := by decide +kernel
theorem d_M_raise_181 : decode prog_11_method_10_code 181 = .ok (.goto (-51), 3) := by decide +kernel
theorem d_M_raise_184 : decode prog_11_method_10_code 184 = .ok (.aload_n 0, 1) := by decide +kernel
theorem d_M_raise_185 : decode prog_11_method_10_code 185 = .ok (.dup, 1) := by decide +kernel
theorem d_M_raise_186 : decode prog_11_method_10_code 186 = .ok (.getfield 89, 3) := by decide +kernel
theorem d_M_raise_189 : decode prog_11_method_10_code 189 = .ok (.iconst 1, 1) := by decide +kernel
theorem d_M_raise_190 : decode prog_11_method_10_code 190 = .ok (.iadd, 1) := by decide +kernel
theorem d_M_raise_191 : decode prog_11_method_10_code 191 = .ok (.putfield 89, 3) := by decide +kernel
theorem d_M_raise_194 : decode prog_11_method_10_code 194 = .ok (.goto (-124), 3) := by decide +kernel
theorem d_M_raise_197 : decode prog_11_method_10_code 197 = .ok (.aload_n 0, 1) := by decide +kernel
theorem d_M_raise_198 : decode prog_11_method_10_code 198 = .ok (.getfield 89, 3) := by decide +kernel
theorem d_M_raise_201 : decode prog_11_method_10_code 201 = .ok (.ifCond .ne 7, 3) := by decide +kernel
theorem d_M_raise_204 : decode prog_11_method_10_code 204 = .ok (.iconst 0, 1) := by decide +kernel
theorem d_M_raise_205 : decode prog_11_method_10_code 205 = .ok (.goto 25, 3) := by decide +kernel
theorem d_M_raise_208 : decode prog_11_method_10_code 208 = .ok (.aload_n 0, 1) := by decide +kernel
theorem d_M_raise_209 : decode prog_11_method_10_code 209 = .ok (.aload_n 0, 1) := by decide +kernel
theorem d_M_raise_210 : decode prog_11_method_10_code 210 = .ok (.getfield 89, 3) := by decide +kernel
theorem d_M_raise_213 : decode prog_11_method_10_code 213 = .ok (.iconst 1, 1) := by decide +kernel
theorem d_M_raise_214 : decode prog_11_method_10_code 214 = .ok (.isub, 1) := by decide +kernel
theorem d_M_raise_215 : decode prog_11_method_10_code 215 = .ok (.iconst 0, 1) := by decide +kernel
theorem d_M_raise_216 : decode prog_11_method_10_code 216 = .ok (.aload_n 0, 1) := by decide +kernel
theorem d_M_raise_217 : decode prog_11_method_10_code 217 = .ok (.getfield 30, 3) := by decide +kernel
theorem d_M_raise_220 : decode prog_11_method_10_code 220 = .ok (.aload_n 0, 1) := by decide +kernel
theorem d_M_raise_221 : decode prog_11_method_10_code 221 = .ok (.getfield 89, 3) := by decide +kernel
theorem d_M_raise_224 : decode prog_11_method_10_code 224 = .ok (.iconst 1, 1) := by decide +kernel
theorem d_M_raise_225 : decode prog_11_method_10_code 225 = .ok (.isub, 1) := by decide +kernel
theorem d_M_raise_226 : decode prog_11_method_10_code 226 = .ok (.iaload, 1) := by decide +kernel
theorem d_M_raise_227 : decode prog_11_method_10_code 227 = .ok (.invokevirtual 95, 3) := by decide +kernel
theorem d_M_raise_230 : decode prog_11_method_10_code 230 = .ok (.ireturn, 1) := by decide +kernel
theorem d_M_item_0 : decode prog_11_method_7_code 0 = .ok (.aload_n 0, 1) := by decide +kernel
theorem d_M_item_1 : decode prog_11_method_7_code 1 = .ok (.getfield 33, 3) := by decide +kernel
theorem d_M_item_4 : decode prog_11_method_7_code 4 = .ok (.bipush 48, 2) := by decide +kernel
theorem d_M_item_6 : decode prog_11_method_7_code 6 = .ok (.iload_n 1, 1) := by decide +kernel
theorem d_M_item_7 : decode prog_11_method_7_code 7 = .ok (.imul, 1) := by decide +kernel
theorem d_M_item_8 : decode prog_11_method_7_code 8 = .ok (.aload_n 0, 1) := by decide +kernel
theorem d_M_item_9 : decode prog_11_method_7_code 9 = .ok (.getfield 30, 3) := by decide +kernel
theorem d_M_item_12 : decode prog_11_method_7_code 12 = .ok (.iload_n 1, 1) := by decide +kernel
theorem d_M_item_13 : decode prog_11_method_7_code 13 = .ok (.iaload, 1) := by decide +kernel
theorem d_M_item_14 : decode prog_11_method_7_code 14 = .ok (.iadd, 1) := by decide +kernel
theorem d_M_item_15 : decode prog_11_method_7_code 15 = .ok (.iload_n 2, 1) := by decide +kernel
theorem d_M_item_16 : decode prog_11_method_7_code 16 = .ok (.iastore, 1) := by decide +kernel
theorem d_M_item_17 : decode prog_11_method_7_code 17 = .ok (.aload_n 0, 1) := by decide +kernel
theorem d_M_item_18 : decode prog_11_method_7_code 18 = .ok (.getfield 36, 3) := by decide +kernel
theorem d_M_item_21 : decode prog_11_method_7_code 21 = .ok (.bipush 48, 2) := by decide +kernel
theorem d_M_item_23 : decode prog_11_method_7_code 23 = .ok (.iload_n 1, 1) := by decide +kernel
theorem d_M_item_24 : decode prog_11_method_7_code 24 = .ok (.imul, 1) := by decide +kernel
theorem d_M_item_25 : decode prog_11_method_7_code 25 = .ok (.aload_n 0, 1) := by decide +kernel
theorem d_M_item_26 : decode prog_11_method_7_code 26 = .ok (.getfield 30, 3) := by decide +kernel
theorem d_M_item_29 : decode prog_11_method_7_code 29 = .ok (.iload_n 1, 1) := by decide +kernel
theorem d_M_item_30 : decode prog_11_method_7_code 30 = .ok (.iaload, 1) := by decide +kernel
theorem d_M_item_31 : decode prog_11_method_7_code 31 = .ok (.iadd, 1) := by decide +kernel
theorem d_M_item_32 : decode prog_11_method_7_code 32 = .ok (.iload_n 3, 1) := by decide +kernel
theorem d_M_item_33 : decode prog_11_method_7_code 33 = .ok (.iastore, 1) := by decide +kernel
theorem d_M_item_34 : decode prog_11_method_7_code 34 = .ok (.aload_n 0, 1) := by decide +kernel
theorem d_M_item_35 : decode prog_11_method_7_code 35 = .ok (.getfield 30, 3) := by decide +kernel
theorem d_M_item_38 : decode prog_11_method_7_code 38 = .ok (.iload_n 1, 1) := by decide +kernel
theorem d_M_item_39 : decode prog_11_method_7_code 39 = .ok (.dup2, 1) := by decide +kernel
theorem d_M_item_40 : decode prog_11_method_7_code 40 = .ok (.iaload, 1) := by decide +kernel
theorem d_M_item_41 : decode prog_11_method_7_code 41 = .ok (.iconst 1, 1) := by decide +kernel
theorem d_M_item_42 : decode prog_11_method_7_code 42 = .ok (.iadd, 1) := by decide +kernel
theorem d_M_item_43 : decode prog_11_method_7_code 43 = .ok (.iastore, 1) := by decide +kernel
theorem d_M_item_44 : decode prog_11_method_7_code 44 = .ok (.return_, 1) := by decide +kernel
theorem d_M_chunkEnd_0 : decode prog_11_method_8_code 0 = .ok (.iload_n 2, 1) := by decide +kernel
theorem d_M_chunkEnd_1 : decode prog_11_method_8_code 1 = .ok (.istore_n 3, 1) := by decide +kernel
theorem d_M_chunkEnd_2 : decode prog_11_method_8_code 2 = .ok (.iload_n 3, 1) := by decide +kernel
theorem d_M_chunkEnd_3 : decode prog_11_method_8_code 3 = .ok (.aload_n 0, 1) := by decide +kernel
theorem d_M_chunkEnd_4 : decode prog_11_method_8_code 4 = .ok (.getfield 30, 3) := by decide +kernel
theorem d_M_chunkEnd_7 : decode prog_11_method_8_code 7 = .ok (.iload_n 1, 1) := by decide +kernel
theorem d_M_chunkEnd_8 : decode prog_11_method_8_code 8 = .ok (.iaload, 1) := by decide +kernel
theorem d_M_chunkEnd_9 : decode prog_11_method_8_code 9 = .ok (.iconst 1, 1) := by decide +kernel
theorem d_M_chunkEnd_10 : decode prog_11_method_8_code 10 = .ok (.isub, 1) := by decide +kernel
theorem d_M_chunkEnd_11 : decode prog_11_method_8_code 11 = .ok (.if_icmp .ge 27, 3) := by decide +kernel
theorem d_M_chunkEnd_14 : decode prog_11_method_8_code 14 = .ok (.iload_n 1, 1) := by decide +kernel
theorem d_M_chunkEnd_15 : decode prog_11_method_8_code 15 = .ok (.aload_n 0, 1) := by decide +kernel
theorem d_M_chunkEnd_16 : decode prog_11_method_8_code 16 = .ok (.getfield 33, 3) := by decide +kernel
theorem d_M_chunkEnd_19 : decode prog_11_method_8_code 19 = .ok (.bipush 48, 2) := by decide +kernel
theorem d_M_chunkEnd_21 : decode prog_11_method_8_code 21 = .ok (.iload_n 1, 1) := by decide +kernel
theorem d_M_chunkEnd_22 : decode prog_11_method_8_code 22 = .ok (.imul, 1) := by decide +kernel
theorem d_M_chunkEnd_23 : decode prog_11_method_8_code 23 = .ok (.iload_n 3, 1) := by decide +kernel
theorem d_M_chunkEnd_24 : decode prog_11_method_8_code 24 = .ok (.iadd, 1) := by decide +kernel
theorem d_M_chunkEnd_25 : decode prog_11_method_8_code 25 = .ok (.iaload, 1) := by decide +kernel
theorem d_M_chunkEnd_26 : decode prog_11_method_8_code 26 = .ok (.invokestatic 81, 3) := by decide +kernel
theorem d_M_chunkEnd_29 : decode prog_11_method_8_code 29 = .ok (.ifCond .ne 9, 3) := by decide +kernel
theorem d_M_chunkEnd_32 : decode prog_11_method_8_code 32 = .ok (.iinc 3 1, 3) := by decide +kernel
theorem d_M_chunkEnd_35 : decode prog_11_method_8_code 35 = .ok (.goto (-33), 3) := by decide +kernel
theorem d_M_chunkEnd_38 : decode prog_11_method_8_code 38 = .ok (.iload_n 3, 1) := by decide +kernel
theorem d_M_chunkEnd_39 : decode prog_11_method_8_code 39 = .ok (.iconst 1, 1) := by decide +kernel
theorem d_M_chunkEnd_40 : decode prog_11_method_8_code 40 = .ok (.iadd, 1) := by decide +kernel
theorem d_M_chunkEnd_41 : decode prog_11_method_8_code 41 = .ok (.ireturn, 1) := by decide +kernel
theorem d_M_ends_0 : decode prog_11_method_6_code 0 = .ok (.bipush 9, 2) := by decide +kernel
theorem d_M_ends_2 : decode prog_11_method_6_code 2 = .ok (.iload_n 0, 1) := by decide +kernel
theorem d_M_ends_3 : decode prog_11_method_6_code 3 = .ok (.invokestatic 77, 3) := by decide +kernel
theorem d_M_ends_6 : decode prog_11_method_6_code 6 = .ok (.iload_n 1, 1) := by decide +kernel
theorem d_M_ends_7 : decode prog_11_method_6_code 7 = .ok (.invokestatic 77, 3) := by decide +kernel
theorem d_M_ends_10 : decode prog_11_method_6_code 10 = .ok (.iconst 5, 1) := by decide +kernel
theorem d_M_ends_11 : decode prog_11_method_6_code 11 = .ok (.invokestatic 77, 3) := by decide +kernel
theorem d_M_ends_14 : decode prog_11_method_6_code 14 = .ok (.iconst 3, 1) := by decide +kernel
theorem d_M_ends_15 : decode prog_11_method_6_code 15 = .ok (.iand, 1) := by decide +kernel
theorem d_M_ends_16 : decode prog_11_method_6_code 16 = .ok (.ifCond .ne 7, 3) := by decide +kernel
theorem d_M_ends_19 : decode prog_11_method_6_code 19 = .ok (.iconst 1, 1) := by decide +kernel
theorem d_M_ends_20 : decode prog_11_method_6_code 20 = .ok (.goto 4, 3) := by decide +kernel
theorem d_M_ends_23 : decode prog_11_method_6_code 23 = .ok (.iconst 0, 1) := by decide +kernel
theorem d_M_ends_24 : decode prog_11_method_6_code 24 = .ok (.ireturn, 1) := by decide +kernel
theorem d_M_mix_0 : decode prog_11_method_5_code 0 = .ok (.iload_n 0, 1) := by decide +kernel
theorem d_M_mix_1 : decode prog_11_method_5_code 1 = .ok (.iload_n 1, 1) := by decide +kernel
theorem d_M_mix_2 : decode prog_11_method_5_code 2 = .ok (.ixor, 1) := by decide +kernel
theorem d_M_mix_3 : decode prog_11_method_5_code 3 = .ok (.ldc 76, 2) := by decide +kernel
theorem d_M_mix_5 : decode prog_11_method_5_code 5 = .ok (.imul, 1) := by decide +kernel
theorem d_M_mix_6 : decode prog_11_method_5_code 6 = .ok (.istore_n 2, 1) := by decide +kernel
theorem d_M_mix_7 : decode prog_11_method_5_code 7 = .ok (.iload_n 2, 1) := by decide +kernel
theorem d_M_mix_8 : decode prog_11_method_5_code 8 = .ok (.iload_n 2, 1) := by decide +kernel
theorem d_M_mix_9 : decode prog_11_method_5_code 9 = .ok (.bipush 15, 2) := by decide +kernel
theorem d_M_mix_11 : decode prog_11_method_5_code 11 = .ok (.iushr, 1) := by decide +kernel
theorem d_M_mix_12 : decode prog_11_method_5_code 12 = .ok (.ixor, 1) := by decide +kernel
theorem d_M_mix_13 : decode prog_11_method_5_code 13 = .ok (.ireturn, 1) := by decide +kernel
theorem d_M_hashOf_0 : decode prog_11_method_9_code 0 = .ok (.bipush 6, 2) := by decide +kernel
theorem d_M_hashOf_2 : decode prog_11_method_9_code 2 = .ok (.iload_n 1, 1) := by decide +kernel
theorem d_M_hashOf_3 : decode prog_11_method_9_code 3 = .ok (.invokestatic 77, 3) := by decide +kernel
theorem d_M_hashOf_6 : decode prog_11_method_9_code 6 = .ok (.istore 4, 2) := by decide +kernel
theorem d_M_hashOf_8 : decode prog_11_method_9_code 8 = .ok (.bipush 48, 2) := by decide +kernel
theorem d_M_hashOf_10 : decode prog_11_method_9_code 10 = .ok (.iload_n 1, 1) := by decide +kernel
theorem d_M_hashOf_11 : decode prog_11_method_9_code 11 = .ok (.imul, 1) := by decide +kernel
theorem d_M_hashOf_12 : decode prog_11_method_9_code 12 = .ok (.iload_n 2, 1) := by decide +kernel
theorem d_M_hashOf_13 : decode prog_11_method_9_code 13 = .ok (.iadd, 1) := by decide +kernel
theorem d_M_hashOf_14 : decode prog_11_method_9_code 14 = .ok (.istore 5, 2) := by decide +kernel
theorem d_M_hashOf_16 : decode prog_11_method_9_code 16 = .ok (.iload 5, 2) := by decide +kernel
theorem d_M_hashOf_18 : decode prog_11_method_9_code 18 = .ok (.bipush 48, 2) := by decide +kernel
theorem d_M_hashOf_20 : decode prog_11_method_9_code 20 = .ok (.iload_n 1, 1) := by decide +kernel
theorem d_M_hashOf_21 : decode prog_11_method_9_code 21 = .ok (.imul, 1) := by decide +kernel
theorem d_M_hashOf_22 : decode prog_11_method_9_code 22 = .ok (.iload_n 3, 1) := by decide +kernel
theorem d_M_hashOf_23 : decode prog_11_method_9_code 23 = .ok (.iadd, 1) := by decide +kernel
theorem d_M_hashOf_24 : decode prog_11_method_9_code 24 = .ok (.if_icmp .ge 33, 3) := by decide +kernel
theorem d_M_hashOf_27 : decode prog_11_method_9_code 27 = .ok (.iload 4, 2) := by decide +kernel
theorem d_M_hashOf_29 : decode prog_11_method_9_code 29 = .ok (.aload_n 0, 1) := by decide +kernel
theorem d_M_hashOf_30 : decode prog_11_method_9_code 30 = .ok (.getfield 33, 3) := by decide +kernel
theorem d_M_hashOf_33 : decode prog_11_method_9_code 33 = .ok (.iload 5, 2) := by decide +kernel
theorem d_M_hashOf_35 : decode prog_11_method_9_code 35 = .ok (.iaload, 1) := by decide +kernel
theorem d_M_hashOf_36 : decode prog_11_method_9_code 36 = .ok (.invokestatic 77, 3) := by decide +kernel
theorem d_M_hashOf_39 : decode prog_11_method_9_code 39 = .ok (.aload_n 0, 1) := by decide +kernel
theorem d_M_hashOf_40 : decode prog_11_method_9_code 40 = .ok (.getfield 36, 3) := by decide +kernel
theorem d_M_hashOf_43 : decode prog_11_method_9_code 43 = .ok (.iload 5, 2) := by decide +kernel
theorem d_M_hashOf_45 : decode prog_11_method_9_code 45 = .ok (.iaload, 1) := by decide +kernel
theorem d_M_hashOf_46 : decode prog_11_method_9_code 46 = .ok (.invokestatic 77, 3) := by decide +kernel
theorem d_M_hashOf_49 : decode prog_11_method_9_code 49 = .ok (.istore 4, 2) := by decide +kernel
theorem d_M_hashOf_51 : decode prog_11_method_9_code 51 = .ok (.iinc 5 1, 3) := by decide +kernel
theorem d_M_hashOf_54 : decode prog_11_method_9_code 54 = .ok (.goto (-38), 3) := by decide +kernel
theorem d_M_hashOf_57 : decode prog_11_method_9_code 57 = .ok (.iload 4, 2) := by decide +kernel
theorem d_M_hashOf_59 : decode prog_11_method_9_code 59 = .ok (.ireturn, 1) := by decide +kernel
theorem d_M_keepMap_0 : decode prog_11_method_19_code 0 = .ok (.aload_n 0, 1) := by decide +kernel
theorem d_M_keepMap_1 : decode prog_11_method_19_code 1 = .ok (.getfield 23, 3) := by decide +kernel
theorem d_M_keepMap_4 : decode prog_11_method_19_code 4 = .ok (.aload_n 0, 1) := by decide +kernel
theorem d_M_keepMap_5 : decode prog_11_method_19_code 5 = .ok (.getfield 117, 3) := by decide +kernel
theorem d_M_keepMap_8 : decode prog_11_method_19_code 8 = .ok (.lconst 0, 1) := by decide +kernel
theorem d_M_keepMap_9 : decode prog_11_method_19_code 9 = .ok (.lastore, 1) := by decide +kernel
theorem d_M_keepMap_10 : decode prog_11_method_19_code 10 = .ok (.iconst 0, 1) := by decide +kernel
theorem d_M_keepMap_11 : decode prog_11_method_19_code 11 = .ok (.istore_n 1, 1) := by decide +kernel
theorem d_M_keepMap_12 : decode prog_11_method_19_code 12 = .ok (.iload_n 1, 1) := by decide +kernel
theorem d_M_keepMap_13 : decode prog_11_method_19_code 13 = .ok (.bipush 48, 2) := by decide +kernel
theorem d_M_keepMap_15 : decode prog_11_method_19_code 15 = .ok (.if_icmp .ge 65, 3) := by decide +kernel
theorem d_M_keepMap_18 : decode prog_11_method_19_code 18 = .ok (.aload_n 0, 1) := by decide +kernel
theorem d_M_keepMap_19 : decode prog_11_method_19_code 19 = .ok (.getfield 23, 3) := by decide +kernel
theorem d_M_keepMap_22 : decode prog_11_method_19_code 22 = .ok (.aload_n 0, 1) := by decide +kernel
theorem d_M_keepMap_23 : decode prog_11_method_19_code 23 = .ok (.getfield 117, 3) := by decide +kernel
theorem d_M_keepMap_26 : decode prog_11_method_19_code 26 = .ok (.dup2, 1) := by decide +kernel
theorem d_M_keepMap_27 : decode prog_11_method_19_code 27 = .ok (.laload, 1) := by decide +kernel
theorem d_M_keepMap_28 : decode prog_11_method_19_code 28 = .ok (.aload_n 0, 1) := by decide +kernel
theorem d_M_keepMap_29 : decode prog_11_method_19_code 29 = .ok (.getfield 7, 3) := by decide +kernel
theorem d_M_keepMap_32 : decode prog_11_method_19_code 32 = .ok (.sipush 768, 3) := by decide +kernel
theorem d_M_keepMap_35 : decode prog_11_method_19_code 35 = .ok (.iload_n 1, 1) := by decide +kernel
theorem d_M_keepMap_36 : decode prog_11_method_19_code 36 = .ok (.iadd, 1) := by decide +kernel
theorem d_M_keepMap_37 : decode prog_11_method_19_code 37 = .ok (.baload, 1) := by decide +kernel
theorem d_M_keepMap_38 : decode prog_11_method_19_code 38 = .ok (.ifCond .eq 9, 3) := by decide +kernel
theorem d_M_keepMap_41 : decode prog_11_method_19_code 41 = .ok (.lconst 1, 1) := by decide +kernel
theorem d_M_keepMap_42 : decode prog_11_method_19_code 42 = .ok (.iload_n 1, 1) := by decide +kernel
theorem d_M_keepMap_43 : decode prog_11_method_19_code 43 = .ok (.lshl, 1) := by decide +kernel
theorem d_M_keepMap_44 : decode prog_11_method_19_code 44 = .ok (.goto 4, 3) := by decide +kernel
theorem d_M_keepMap_47 : decode prog_11_method_19_code 47 = .ok (.lconst 0, 1) := by decide +kernel
theorem d_M_keepMap_48 : decode prog_11_method_19_code 48 = .ok (.lor, 1) := by decide +kernel
theorem d_M_keepMap_49 : decode prog_11_method_19_code 49 = .ok (.lastore, 1) := by decide +kernel
theorem d_M_keepMap_50 : decode prog_11_method_19_code 50 = .ok (.aload_n 0, 1) := by decide +kernel
theorem d_M_keepMap_51 : decode prog_11_method_19_code 51 = .ok (.getfield 27, 3) := by decide +kernel
theorem d_M_keepMap_54 : decode prog_11_method_19_code 54 = .ok (.bipush 48, 2) := by decide +kernel
theorem d_M_keepMap_56 : decode prog_11_method_19_code 56 = .ok (.aload_n 0, 1) := by decide +kernel
theorem d_M_keepMap_57 : decode prog_11_method_19_code 57 = .ok (.getfield 117, 3) := by decide +kernel
theorem d_M_keepMap_60 : decode prog_11_method_19_code 60 = .ok (.imul, 1) := by decide +kernel
theorem d_M_keepMap_61 : decode prog_11_method_19_code 61 = .ok (.iload_n 1, 1) := by decide +kernel
theorem d_M_keepMap_62 : decode prog_11_method_19_code 62 = .ok (.iadd, 1) := by decide +kernel
theorem d_M_keepMap_63 : decode prog_11_method_19_code 63 = .ok (.aload_n 0, 1) := by decide +kernel
theorem d_M_keepMap_64 : decode prog_11_method_19_code 64 = .ok (.getfield 13, 3) := by decide +kernel
theorem d_M_keepMap_67 : decode prog_11_method_19_code 67 = .ok (.sipush 768, 3) := by decide +kernel
theorem d_M_keepMap_70 : decode prog_11_method_19_code 70 = .ok (.iload_n 1, 1) := by decide +kernel
theorem d_M_keepMap_71 : decode prog_11_method_19_code 71 = .ok (.iadd, 1) := by decide +kernel
theorem d_M_keepMap_72 : decode prog_11_method_19_code 72 = .ok (.iaload, 1) := by decide +kernel
theorem d_M_keepMap_73 : decode prog_11_method_19_code 73 = .ok (.iastore, 1) := by decide +kernel
theorem d_M_keepMap_74 : decode prog_11_method_19_code 74 = .ok (.iinc 1 1, 3) := by decide +kernel
theorem d_M_keepMap_77 : decode prog_11_method_19_code 77 = .ok (.goto (-65), 3) := by decide +kernel
theorem d_M_keepMap_80 : decode prog_11_method_19_code 80 = .ok (.return_, 1) := by decide +kernel
theorem d_M_written_0 : decode prog_11_method_20_code 0 = .ok (.iconst 0, 1) := by decide +kernel
theorem d_M_written_1 : decode prog_11_method_20_code 1 = .ok (.istore_n 1, 1) := by decide +kernel
theorem d_M_written_2 : decode prog_11_method_20_code 2 = .ok (.iload_n 1, 1) := by decide +kernel
theorem d_M_written_3 : decode prog_11_method_20_code 3 = .ok (.aload_n 0, 1) := by decide +kernel
theorem d_M_written_4 : decode prog_11_method_20_code 4 = .ok (.getfield 89, 3) := by decide +kernel
theorem d_M_written_7 : decode prog_11_method_20_code 7 = .ok (.if_icmp .ge 101, 3) := by decide +kernel
theorem d_M_written_10 : decode prog_11_method_20_code 10 = .ok (.iconst 0, 1) := by decide +kernel
theorem d_M_written_11 : decode prog_11_method_20_code 11 = .ok (.istore_n 2, 1) := by decide +kernel
theorem d_M_written_12 : decode prog_11_method_20_code 12 = .ok (.iload_n 2, 1) := by decide +kernel
theorem d_M_written_13 : decode prog_11_method_20_code 13 = .ok (.aload_n 0, 1) := by decide +kernel
theorem d_M_written_14 : decode prog_11_method_20_code 14 = .ok (.getfield 30, 3) := by decide +kernel
theorem d_M_written_17 : decode prog_11_method_20_code 17 = .ok (.iload_n 1, 1) := by decide +kernel
theorem d_M_written_18 : decode prog_11_method_20_code 18 = .ok (.iaload, 1) := by decide +kernel
theorem d_M_written_19 : decode prog_11_method_20_code 19 = .ok (.if_icmp .ge 83, 3) := by decide +kernel
theorem d_M_written_22 : decode prog_11_method_20_code 22 = .ok (.aload_n 0, 1) := by decide +kernel
theorem d_M_written_23 : decode prog_11_method_20_code 23 = .ok (.iload_n 1, 1) := by decide +kernel
theorem d_M_written_24 : decode prog_11_method_20_code 24 = .ok (.iload_n 2, 1) := by decide +kernel
theorem d_M_written_25 : decode prog_11_method_20_code 25 = .ok (.invokevirtual 92, 3) := by decide +kernel
theorem d_M_written_28 : decode prog_11_method_20_code 28 = .ok (.istore_n 3, 1) := by decide +kernel
theorem d_M_written_29 : decode prog_11_method_20_code 29 = .ok (.iload_n 2, 1) := by decide +kernel
theorem d_M_written_30 : decode prog_11_method_20_code 30 = .ok (.ifCond .ne 7, 3) := by decide +kernel
theorem d_M_written_33 : decode prog_11_method_20_code 33 = .ok (.iconst (-1), 1) := by decide +kernel
theorem d_M_written_34 : decode prog_11_method_20_code 34 = .ok (.goto 16, 3) := by decide +kernel
theorem d_M_written_37 : decode prog_11_method_20_code 37 = .ok (.aload_n 0, 1) := by decide +kernel
theorem d_M_written_38 : decode prog_11_method_20_code 38 = .ok (.getfield 33, 3) := by decide +kernel
theorem d_M_written_41 : decode prog_11_method_20_code 41 = .ok (.bipush 48, 2) := by decide +kernel
theorem d_M_written_43 : decode prog_11_method_20_code 43 = .ok (.iload_n 1, 1) := by decide +kernel
theorem d_M_written_44 : decode prog_11_method_20_code 44 = .ok (.imul, 1) := by decide +kernel
theorem d_M_written_45 : decode prog_11_method_20_code 45 = .ok (.iload_n 2, 1) := by decide +kernel
theorem d_M_written_46 : decode prog_11_method_20_code 46 = .ok (.iadd, 1) := by decide +kernel
theorem d_M_written_47 : decode prog_11_method_20_code 47 = .ok (.iconst 1, 1) := by decide +kernel
theorem d_M_written_48 : decode prog_11_method_20_code 48 = .ok (.isub, 1) := by decide +kernel
theorem d_M_written_49 : decode prog_11_method_20_code 49 = .ok (.iaload, 1) := by decide +kernel
theorem d_M_written_50 : decode prog_11_method_20_code 50 = .ok (.istore 4, 2) := by decide +kernel
theorem d_M_written_52 : decode prog_11_method_20_code 52 = .ok (.aload_n 0, 1) := by decide +kernel
theorem d_M_written_53 : decode prog_11_method_20_code 53 = .ok (.getfield 33, 3) := by decide +kernel
theorem d_M_written_56 : decode prog_11_method_20_code 56 = .ok (.bipush 48, 2) := by decide +kernel
theorem d_M_written_58 : decode prog_11_method_20_code 58 = .ok (.iload_n 1, 1) := by decide +kernel
theorem d_M_written_59 : decode prog_11_method_20_code 59 = .ok (.imul, 1) := by decide +kernel
theorem d_M_written_60 : decode prog_11_method_20_code 60 = .ok (.iload_n 3, 1) := by decide +kernel
theorem d_M_written_61 : decode prog_11_method_20_code 61 = .ok (.iadd, 1) := by decide +kernel
theorem d_M_written_62 : decode prog_11_method_20_code 62 = .ok (.iconst 1, 1) := by decide +kernel
theorem d_M_written_63 : decode prog_11_method_20_code 63 = .ok (.isub, 1) := by decide +kernel
theorem d_M_written_64 : decode prog_11_method_20_code 64 = .ok (.iaload, 1) := by decide +kernel
theorem d_M_written_65 : decode prog_11_method_20_code 65 = .ok (.istore 5, 2) := by decide +kernel
theorem d_M_written_67 : decode prog_11_method_20_code 67 = .ok (.aload_n 0, 1) := by decide +kernel
theorem d_M_written_68 : decode prog_11_method_20_code 68 = .ok (.iload_n 1, 1) := by decide +kernel
theorem d_M_written_69 : decode prog_11_method_20_code 69 = .ok (.iload 4, 2) := by decide +kernel
theorem d_M_written_71 : decode prog_11_method_20_code 71 = .ok (.iload 5, 2) := by decide +kernel
theorem d_M_written_73 : decode prog_11_method_20_code 73 = .ok (.invokevirtual 120, 3) := by decide +kernel
theorem d_M_written_76 : decode prog_11_method_20_code 76 = .ok (.ifCond .ne 21, 3) := by decide +kernel
theorem d_M_written_79 : decode prog_11_method_20_code 79 = .ok (.aload_n 0, 1) := by decide +kernel
theorem d_M_written_80 : decode prog_11_method_20_code 80 = .ok (.invokevirtual 123, 3) := by decide +kernel
theorem d_M_written_83 : decode prog_11_method_20_code 83 = .ok (.ifCond .ne 5, 3) := by decide +kernel
theorem d_M_written_86 : decode prog_11_method_20_code 86 = .ok (.iconst 0, 1) := by decide +kernel
theorem d_M_written_87 : decode prog_11_method_20_code 87 = .ok (.ireturn, 1) := by decide +kernel
theorem d_M_written_88 : decode prog_11_method_20_code 88 = .ok (.aload_n 0, 1) := by decide +kernel
theorem d_M_written_89 : decode prog_11_method_20_code 89 = .ok (.iload_n 1, 1) := by decide +kernel
theorem d_M_written_90 : decode prog_11_method_20_code 90 = .ok (.iload 4, 2) := by decide +kernel
theorem d_M_written_92 : decode prog_11_method_20_code 92 = .ok (.iload 5, 2) := by decide +kernel
theorem d_M_written_94 : decode prog_11_method_20_code 94 = .ok (.invokevirtual 127, 3) := by decide +kernel
theorem d_M_written_97 : decode prog_11_method_20_code 97 = .ok (.iload_n 3, 1) := by decide +kernel
theorem d_M_written_98 : decode prog_11_method_20_code 98 = .ok (.istore_n 2, 1) := by decide +kernel
theorem d_M_written_99 : decode prog_11_method_20_code 99 = .ok (.goto (-87), 3) := by decide +kernel
theorem d_M_written_102 : decode prog_11_method_20_code 102 = .ok (.iinc 1 1, 3) := by decide +kernel
theorem d_M_written_105 : decode prog_11_method_20_code 105 = .ok (.goto (-103), 3) := by decide +kernel
theorem d_M_written_108 : decode prog_11_method_20_code 108 = .ok (.aload_n 0, 1) := by decide +kernel
theorem d_M_written_109 : decode prog_11_method_20_code 109 = .ok (.invokevirtual 123, 3) := by decide +kernel
theorem d_M_written_112 : decode prog_11_method_20_code 112 = .ok (.ireturn, 1) := by decide +kernel
theorem d_M_stored_0 : decode prog_11_method_16_code 0 = .ok (.iconst 0, 1) := by decide +kernel
theorem d_M_stored_1 : decode prog_11_method_16_code 1 = .ok (.istore 4, 2) := by decide +kernel
theorem d_M_stored_3 : decode prog_11_method_16_code 3 = .ok (.iload 4, 2) := by decide +kernel
theorem d_M_stored_5 : decode prog_11_method_16_code 5 = .ok (.aload_n 0, 1) := by decide +kernel
theorem d_M_stored_6 : decode prog_11_method_16_code 6 = .ok (.getfield 111, 3) := by decide +kernel
theorem d_M_stored_9 : decode prog_11_method_16_code 9 = .ok (.if_icmp .ge 207, 3) := by decide +kernel
theorem d_M_stored_12 : decode prog_11_method_16_code 12 = .ok (.aload_n 0, 1) := by decide +kernel
theorem d_M_stored_13 : decode prog_11_method_16_code 13 = .ok (.getfield 20, 3) := by decide +kernel
theorem d_M_stored_16 : decode prog_11_method_16_code 16 = .ok (.iload 4, 2) := by decide +kernel
theorem d_M_stored_18 : decode prog_11_method_16_code 18 = .ok (.iaload, 1) := by decide +kernel
theorem d_M_stored_19 : decode prog_11_method_16_code 19 = .ok (.bipush 7, 2) := by decide +kernel
theorem d_M_stored_21 : decode prog_11_method_16_code 21 = .ok (.iand, 1) := by decide +kernel
theorem d_M_stored_22 : decode prog_11_method_16_code 22 = .ok (.iload_n 1, 1) := by decide +kernel
theorem d_M_stored_23 : decode prog_11_method_16_code 23 = .ok (.if_icmp .ne 21, 3) := by decide +kernel
theorem d_M_stored_26 : decode prog_11_method_16_code 26 = .ok (.aload_n 0, 1) := by decide +kernel
theorem d_M_stored_27 : decode prog_11_method_16_code 27 = .ok (.getfield 20, 3) := by decide +kernel
theorem d_M_stored_30 : decode prog_11_method_16_code 30 = .ok (.iload 4, 2) := by decide +kernel
theorem d_M_stored_32 : decode prog_11_method_16_code 32 = .ok (.iaload, 1) := by decide +kernel
theorem d_M_stored_33 : decode prog_11_method_16_code 33 = .ok (.bipush 18, 2) := by decide +kernel
theorem d_M_stored_35 : decode prog_11_method_16_code 35 = .ok (.ishr, 1) := by decide +kernel
theorem d_M_stored_36 : decode prog_11_method_16_code 36 = .ok (.iload_n 3, 1) := by decide +kernel
theorem d_M_stored_37 : decode prog_11_method_16_code 37 = .ok (.if_icmp .ne 7, 3) := by decide +kernel
theorem d_M_stored_40 : decode prog_11_method_16_code 40 = .ok (.iconst 1, 1) := by decide +kernel
theorem d_M_stored_41 : decode prog_11_method_16_code 41 = .ok (.goto 4, 3) := by decide +kernel
theorem d_M_stored_44 : decode prog_11_method_16_code 44 = .ok (.iconst 0, 1) := by decide +kernel
theorem d_M_stored_45 : decode prog_11_method_16_code 45 = .ok (.istore 5, 2) := by decide +kernel
theorem d_M_stored_47 : decode prog_11_method_16_code 47 = .ok (.aload_n 0, 1) := by decide +kernel
theorem d_M_stored_48 : decode prog_11_method_16_code 48 = .ok (.getfield 20, 3) := by decide +kernel
theorem d_M_stored_51 : decode prog_11_method_16_code 51 = .ok (.iload 4, 2) := by decide +kernel
theorem d_M_stored_53 : decode prog_11_method_16_code 53 = .ok (.iaload, 1) := by decide +kernel
theorem d_M_stored_54 : decode prog_11_method_16_code 54 = .ok (.iconst 3, 1) := by decide +kernel
theorem d_M_stored_55 : decode prog_11_method_16_code 55 = .ok (.ishr, 1) := by decide +kernel
theorem d_M_stored_56 : decode prog_11_method_16_code 56 = .ok (.sipush 511, 3) := by decide +kernel
theorem d_M_stored_59 : decode prog_11_method_16_code 59 = .ok (.iand, 1) := by decide +kernel
theorem d_M_stored_60 : decode prog_11_method_16_code 60 = .ok (.istore 6, 2) := by decide +kernel
theorem d_M_stored_62 : decode prog_11_method_16_code 62 = .ok (.aload_n 0, 1) := by decide +kernel
theorem d_M_stored_63 : decode prog_11_method_16_code 63 = .ok (.getfield 20, 3) := by decide +kernel
theorem d_M_stored_66 : decode prog_11_method_16_code 66 = .ok (.iload 4, 2) := by decide +kernel
theorem d_M_stored_68 : decode prog_11_method_16_code 68 = .ok (.iaload, 1) := by decide +kernel
theorem d_M_stored_69 : decode prog_11_method_16_code 69 = .ok (.bipush 12, 2) := by decide +kernel
