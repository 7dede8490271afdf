theorem d_M_stored_71 : decode prog_11_method_16_code 71 = .ok (.ishr, 1) := by decide +kernel
theorem d_M_stored_72 : decode prog_11_method_16_code 72 = .ok (.bipush 63, 2) := by decide +kernel
theorem d_M_stored_74 : decode prog_11_method_16_code 74 = .ok (.iand, 1) := by decide +kernel
theorem d_M_stored_75 : decode prog_11_method_16_code 75 = .ok (.iconst 1, 1) := by decide +kernel
theorem d_M_stored_76 : decode prog_11_method_16_code 76 = .ok (.isub, 1) := by decide +kernel
theorem d_M_stored_77 : decode prog_11_method_16_code 77 = .ok (.istore 7, 2) := by decide +kernel
theorem d_M_stored_79 : decode prog_11_method_16_code 79 = .ok (.iconst 0, 1) := by decide +kernel
theorem d_M_stored_80 : decode prog_11_method_16_code 80 = .ok (.istore 8, 2) := by decide +kernel
theorem d_M_stored_82 : decode prog_11_method_16_code 82 = .ok (.iload 8, 2) := by decide +kernel
theorem d_M_stored_84 : decode prog_11_method_16_code 84 = .ok (.iload_n 3, 1) := by decide +kernel
theorem d_M_stored_85 : decode prog_11_method_16_code 85 = .ok (.if_icmp .gt 118, 3) := by decide +kernel
theorem d_M_stored_88 : decode prog_11_method_16_code 88 = .ok (.iload 5, 2) := by decide +kernel
theorem d_M_stored_90 : decode prog_11_method_16_code 90 = .ok (.ifCond .eq 113, 3) := by decide +kernel
theorem d_M_stored_93 : decode prog_11_method_16_code 93 = .ok (.aload_n 0, 1) := by decide +kernel
theorem d_M_stored_94 : decode prog_11_method_16_code 94 = .ok (.getfield 23, 3) := by decide +kernel
theorem d_M_stored_97 : decode prog_11_method_16_code 97 = .ok (.iload 6, 2) := by decide +kernel
theorem d_M_stored_99 : decode prog_11_method_16_code 99 = .ok (.laload, 1) := by decide +kernel
theorem d_M_stored_100 : decode prog_11_method_16_code 100 = .ok (.iload 8, 2) := by decide +kernel
theorem d_M_stored_102 : decode prog_11_method_16_code 102 = .ok (.lshr, 1) := by decide +kernel
theorem d_M_stored_103 : decode prog_11_method_16_code 103 = .ok (.lconst 1, 1) := by decide +kernel
theorem d_M_stored_104 : decode prog_11_method_16_code 104 = .ok (.land, 1) := by decide +kernel
theorem d_M_stored_105 : decode prog_11_method_16_code 105 = .ok (.lconst 1, 1) := by decide +kernel
theorem d_M_stored_106 : decode prog_11_method_16_code 106 = .ok (.lcmp, 1) := by decide +kernel
theorem d_M_stored_107 : decode prog_11_method_16_code 107 = .ok (.ifCond .ne 14, 3) := by decide +kernel
theorem d_M_stored_110 : decode prog_11_method_16_code 110 = .ok (.iload 8, 2) := by decide +kernel
theorem d_M_stored_112 : decode prog_11_method_16_code 112 = .ok (.iload 7, 2) := by decide +kernel
theorem d_M_stored_114 : decode prog_11_method_16_code 114 = .ok (.if_icmp .le 7, 3) := by decide +kernel
theorem d_M_stored_117 : decode prog_11_method_16_code 117 = .ok (.iconst 1, 1) := by decide +kernel
theorem d_M_stored_118 : decode prog_11_method_16_code 118 = .ok (.goto 4, 3) := by decide +kernel
theorem d_M_stored_121 : decode prog_11_method_16_code 121 = .ok (.iconst 0, 1) := by decide +kernel
theorem d_M_stored_122 : decode prog_11_method_16_code 122 = .ok (.istore 9, 2) := by decide +kernel
theorem d_M_stored_124 : decode prog_11_method_16_code 124 = .ok (.aload_n 0, 1) := by decide +kernel
theorem d_M_stored_125 : decode prog_11_method_16_code 125 = .ok (.getfield 7, 3) := by decide +kernel
theorem d_M_stored_128 : decode prog_11_method_16_code 128 = .ok (.sipush 768, 3) := by decide +kernel
theorem d_M_stored_131 : decode prog_11_method_16_code 131 = .ok (.iload 8, 2) := by decide +kernel
theorem d_M_stored_133 : decode prog_11_method_16_code 133 = .ok (.iadd, 1) := by decide +kernel
theorem d_M_stored_134 : decode prog_11_method_16_code 134 = .ok (.baload, 1) := by decide +kernel
theorem d_M_stored_135 : decode prog_11_method_16_code 135 = .ok (.ifCond .eq 13, 3) := by decide +kernel
theorem d_M_stored_138 : decode prog_11_method_16_code 138 = .ok (.iload 8, 2) := by decide +kernel
theorem d_M_stored_140 : decode prog_11_method_16_code 140 = .ok (.iload_n 2, 1) := by decide +kernel
theorem d_M_stored_141 : decode prog_11_method_16_code 141 = .ok (.if_icmp .le 7, 3) := by decide +kernel
theorem d_M_stored_144 : decode prog_11_method_16_code 144 = .ok (.iconst 1, 1) := by decide +kernel
theorem d_M_stored_145 : decode prog_11_method_16_code 145 = .ok (.goto 4, 3) := by decide +kernel
theorem d_M_stored_148 : decode prog_11_method_16_code 148 = .ok (.iconst 0, 1) := by decide +kernel
theorem d_M_stored_149 : decode prog_11_method_16_code 149 = .ok (.istore 10, 2) := by decide +kernel
theorem d_M_stored_151 : decode prog_11_method_16_code 151 = .ok (.iload 9, 2) := by decide +kernel
theorem d_M_stored_153 : decode prog_11_method_16_code 153 = .ok (.iload 10, 2) := by decide +kernel
theorem d_M_stored_155 : decode prog_11_method_16_code 155 = .ok (.if_icmp .ne 39, 3) := by decide +kernel
theorem d_M_stored_158 : decode prog_11_method_16_code 158 = .ok (.iload 10, 2) := by decide +kernel
theorem d_M_stored_160 : decode prog_11_method_16_code 160 = .ok (.ifCond .eq 30, 3) := by decide +kernel
theorem d_M_stored_163 : decode prog_11_method_16_code 163 = .ok (.aload_n 0, 1) := by decide +kernel
theorem d_M_stored_164 : decode prog_11_method_16_code 164 = .ok (.getfield 27, 3) := by decide +kernel
theorem d_M_stored_167 : decode prog_11_method_16_code 167 = .ok (.bipush 48, 2) := by decide +kernel
theorem d_M_stored_169 : decode prog_11_method_16_code 169 = .ok (.iload 6, 2) := by decide +kernel
theorem d_M_stored_171 : decode prog_11_method_16_code 171 = .ok (.imul, 1) := by decide +kernel
theorem d_M_stored_172 : decode prog_11_method_16_code 172 = .ok (.iload 8, 2) := by decide +kernel
theorem d_M_stored_174 : decode prog_11_method_16_code 174 = .ok (.iadd, 1) := by decide +kernel
theorem d_M_stored_175 : decode prog_11_method_16_code 175 = .ok (.iaload, 1) := by decide +kernel
theorem d_M_stored_176 : decode prog_11_method_16_code 176 = .ok (.aload_n 0, 1) := by decide +kernel
theorem d_M_stored_177 : decode prog_11_method_16_code 177 = .ok (.getfield 13, 3) := by decide +kernel
theorem d_M_stored_180 : decode prog_11_method_16_code 180 = .ok (.sipush 768, 3) := by decide +kernel
theorem d_M_stored_183 : decode prog_11_method_16_code 183 = .ok (.iload 8, 2) := by decide +kernel
theorem d_M_stored_185 : decode prog_11_method_16_code 185 = .ok (.iadd, 1) := by decide +kernel
theorem d_M_stored_186 : decode prog_11_method_16_code 186 = .ok (.iaload, 1) := by decide +kernel
theorem d_M_stored_187 : decode prog_11_method_16_code 187 = .ok (.if_icmp .ne 7, 3) := by decide +kernel
theorem d_M_stored_190 : decode prog_11_method_16_code 190 = .ok (.iconst 1, 1) := by decide +kernel
theorem d_M_stored_191 : decode prog_11_method_16_code 191 = .ok (.goto 4, 3) := by decide +kernel
theorem d_M_stored_194 : decode prog_11_method_16_code 194 = .ok (.iconst 0, 1) := by decide +kernel
theorem d_M_stored_195 : decode prog_11_method_16_code 195 = .ok (.istore 5, 2) := by decide +kernel
theorem d_M_stored_197 : decode prog_11_method_16_code 197 = .ok (.iinc 8 1, 3) := by decide +kernel
theorem d_M_stored_200 : decode prog_11_method_16_code 200 = .ok (.goto (-118), 3) := by decide +kernel
theorem d_M_stored_203 : decode prog_11_method_16_code 203 = .ok (.iload 5, 2) := by decide +kernel
theorem d_M_stored_205 : decode prog_11_method_16_code 205 = .ok (.ifCond .eq 5, 3) := by decide +kernel
theorem d_M_stored_208 : decode prog_11_method_16_code 208 = .ok (.iconst 1, 1) := by decide +kernel
theorem d_M_stored_209 : decode prog_11_method_16_code 209 = .ok (.ireturn, 1) := by decide +kernel
theorem d_M_stored_210 : decode prog_11_method_16_code 210 = .ok (.iinc 4 1, 3) := by decide +kernel
theorem d_M_stored_213 : decode prog_11_method_16_code 213 = .ok (.goto (-210), 3) := by decide +kernel
theorem d_M_stored_216 : decode prog_11_method_16_code 216 = .ok (.iconst 0, 1) := by decide +kernel
theorem d_M_stored_217 : decode prog_11_method_16_code 217 = .ok (.ireturn, 1) := by decide +kernel
theorem d_M_writes_0 : decode prog_11_method_17_code 0 = .ok (.aload_n 0, 1) := by decide +kernel
theorem d_M_writes_1 : decode prog_11_method_17_code 1 = .ok (.aload_n 0, 1) := by decide +kernel
theorem d_M_writes_2 : decode prog_11_method_17_code 2 = .ok (.getfield 114, 3) := by decide +kernel
theorem d_M_writes_5 : decode prog_11_method_17_code 5 = .ok (.ifCond .le 12, 3) := by decide +kernel
theorem d_M_writes_8 : decode prog_11_method_17_code 8 = .ok (.aload_n 0, 1) := by decide +kernel
theorem d_M_writes_9 : decode prog_11_method_17_code 9 = .ok (.getfield 114, 3) := by decide +kernel
theorem d_M_writes_12 : decode prog_11_method_17_code 12 = .ok (.iconst 1, 1) := by decide +kernel
theorem d_M_writes_13 : decode prog_11_method_17_code 13 = .ok (.isub, 1) := by decide +kernel
theorem d_M_writes_14 : decode prog_11_method_17_code 14 = .ok (.goto 4, 3) := by decide +kernel
theorem d_M_writes_17 : decode prog_11_method_17_code 17 = .ok (.iconst (-1), 1) := by decide +kernel
theorem d_M_writes_18 : decode prog_11_method_17_code 18 = .ok (.putfield 114, 3) := by decide +kernel
theorem d_M_writes_21 : decode prog_11_method_17_code 21 = .ok (.aload_n 0, 1) := by decide +kernel
theorem d_M_writes_22 : decode prog_11_method_17_code 22 = .ok (.getfield 114, 3) := by decide +kernel
theorem d_M_writes_25 : decode prog_11_method_17_code 25 = .ok (.ifCond .eq 7, 3) := by decide +kernel
theorem d_M_writes_28 : decode prog_11_method_17_code 28 = .ok (.iconst 1, 1) := by decide +kernel
theorem d_M_writes_29 : decode prog_11_method_17_code 29 = .ok (.goto 4, 3) := by decide +kernel
theorem d_M_writes_32 : decode prog_11_method_17_code 32 = .ok (.iconst 0, 1) := by decide +kernel
theorem d_M_writes_33 : decode prog_11_method_17_code 33 = .ok (.istore_n 1, 1) := by decide +kernel
theorem d_M_writes_34 : decode prog_11_method_17_code 34 = .ok (.aload_n 0, 1) := by decide +kernel
theorem d_M_writes_35 : decode prog_11_method_17_code 35 = .ok (.aload_n 0, 1) := by decide +kernel
theorem d_M_writes_36 : decode prog_11_method_17_code 36 = .ok (.getfield 114, 3) := by decide +kernel
theorem d_M_writes_39 : decode prog_11_method_17_code 39 = .ok (.iconst 1, 1) := by decide +kernel
theorem d_M_writes_40 : decode prog_11_method_17_code 40 = .ok (.if_icmp .ge 7, 3) := by decide +kernel
theorem d_M_writes_43 : decode prog_11_method_17_code 43 = .ok (.iconst 0, 1) := by decide +kernel
theorem d_M_writes_44 : decode prog_11_method_17_code 44 = .ok (.goto 7, 3) := by decide +kernel
theorem d_M_writes_47 : decode prog_11_method_17_code 47 = .ok (.aload_n 0, 1) := by decide +kernel
theorem d_M_writes_48 : decode prog_11_method_17_code 48 = .ok (.getfield 114, 3) := by decide +kernel
theorem d_M_writes_51 : decode prog_11_method_17_code 51 = .ok (.putfield 114, 3) := by decide +kernel
theorem d_M_writes_54 : decode prog_11_method_17_code 54 = .ok (.iload_n 1, 1) := by decide +kernel
theorem d_M_writes_55 : decode prog_11_method_17_code 55 = .ok (.ireturn, 1) := by decide +kernel
theorem d_M_store_0 : decode prog_11_method_18_code 0 = .ok (.aload_n 0, 1) := by decide +kernel
theorem d_M_store_1 : decode prog_11_method_18_code 1 = .ok (.getfield 20, 3) := by decide +kernel
theorem d_M_store_4 : decode prog_11_method_18_code 4 = .ok (.aload_n 0, 1) := by decide +kernel
theorem d_M_store_5 : decode prog_11_method_18_code 5 = .ok (.getfield 111, 3) := by decide +kernel
theorem d_M_store_8 : decode prog_11_method_18_code 8 = .ok (.iload_n 1, 1) := by decide +kernel
theorem d_M_store_9 : decode prog_11_method_18_code 9 = .ok (.aload_n 0, 1) := by decide +kernel
theorem d_M_store_10 : decode prog_11_method_18_code 10 = .ok (.getfield 117, 3) := by decide +kernel
theorem d_M_store_13 : decode prog_11_method_18_code 13 = .ok (.iconst 3, 1) := by decide +kernel
theorem d_M_store_14 : decode prog_11_method_18_code 14 = .ok (.ishl, 1) := by decide +kernel
theorem d_M_store_15 : decode prog_11_method_18_code 15 = .ok (.ior, 1) := by decide +kernel
theorem d_M_store_16 : decode prog_11_method_18_code 16 = .ok (.iload_n 2, 1) := by decide +kernel
theorem d_M_store_17 : decode prog_11_method_18_code 17 = .ok (.iconst 1, 1) := by decide +kernel
theorem d_M_store_18 : decode prog_11_method_18_code 18 = .ok (.iadd, 1) := by decide +kernel
theorem d_M_store_19 : decode prog_11_method_18_code 19 = .ok (.bipush 12, 2) := by decide +kernel
theorem d_M_store_21 : decode prog_11_method_18_code 21 = .ok (.ishl, 1) := by decide +kernel
theorem d_M_store_22 : decode prog_11_method_18_code 22 = .ok (.ior, 1) := by decide +kernel
theorem d_M_store_23 : decode prog_11_method_18_code 23 = .ok (.iload_n 3, 1) := by decide +kernel
theorem d_M_store_24 : decode prog_11_method_18_code 24 = .ok (.bipush 18, 2) := by decide +kernel
theorem d_M_store_26 : decode prog_11_method_18_code 26 = .ok (.ishl, 1) := by decide +kernel
theorem d_M_store_27 : decode prog_11_method_18_code 27 = .ok (.ior, 1) := by decide +kernel
theorem d_M_store_28 : decode prog_11_method_18_code 28 = .ok (.iastore, 1) := by decide +kernel
theorem d_M_store_29 : decode prog_11_method_18_code 29 = .ok (.aload_n 0, 1) := by decide +kernel
theorem d_M_store_30 : decode prog_11_method_18_code 30 = .ok (.dup, 1) := by decide +kernel
theorem d_M_store_31 : decode prog_11_method_18_code 31 = .ok (.getfield 111, 3) := by decide +kernel
theorem d_M_store_34 : decode prog_11_method_18_code 34 = .ok (.iconst 1, 1) := by decide +kernel
theorem d_M_store_35 : decode prog_11_method_18_code 35 = .ok (.iadd, 1) := by decide +kernel
theorem d_M_store_36 : decode prog_11_method_18_code 36 = .ok (.putfield 111, 3) := by decide +kernel
theorem d_M_store_39 : decode prog_11_method_18_code 39 = .ok (.return_, 1) := by decide +kernel
theorem d_M_fail_0 : decode prog_11_method_22_code 0 = .ok (.aload_n 0, 1) := by decide +kernel
theorem d_M_fail_1 : decode prog_11_method_22_code 1 = .ok (.iconst 0, 1) := by decide +kernel
theorem d_M_fail_2 : decode prog_11_method_22_code 2 = .ok (.putfield 73, 3) := by decide +kernel
theorem d_M_fail_5 : decode prog_11_method_22_code 5 = .ok (.iload_n 1, 1) := by decide +kernel
theorem d_M_fail_6 : decode prog_11_method_22_code 6 = .ok (.iconst 1, 1) := by decide +kernel
theorem d_M_fail_7 : decode prog_11_method_22_code 7 = .ok (.bipush 40, 2) := by decide +kernel
theorem d_M_fail_9 : decode prog_11_method_22_code 9 = .ok (.invokestatic 99, 3) := by decide +kernel
theorem d_M_fail_12 : decode prog_11_method_22_code 12 = .ok (.ifCond .eq 5, 3) := by decide +kernel
theorem d_M_fail_15 : decode prog_11_method_22_code 15 = .ok (.iconst 0, 1) := by decide +kernel
theorem d_M_fail_16 : decode prog_11_method_22_code 16 = .ok (.ireturn, 1) := by decide +kernel
theorem d_M_fail_17 : decode prog_11_method_22_code 17 = .ok (.aload_n 0, 1) := by decide +kernel
theorem d_M_fail_18 : decode prog_11_method_22_code 18 = .ok (.iload_n 1, 1) := by decide +kernel
theorem d_M_fail_19 : decode prog_11_method_22_code 19 = .ok (.putfield 114, 3) := by decide +kernel
theorem d_M_fail_22 : decode prog_11_method_22_code 22 = .ok (.iconst 1, 1) := by decide +kernel
theorem d_M_fail_23 : decode prog_11_method_22_code 23 = .ok (.ireturn, 1) := by decide +kernel
theorem d_M_chunks_0 : decode prog_11_method_23_code 0 = .ok (.aload_n 0, 1) := by decide +kernel
theorem d_M_chunks_1 : decode prog_11_method_23_code 1 = .ok (.iconst 0, 1) := by decide +kernel
theorem d_M_chunks_2 : decode prog_11_method_23_code 2 = .ok (.putfield 73, 3) := by decide +kernel
theorem d_M_chunks_5 : decode prog_11_method_23_code 5 = .ok (.aload_n 0, 1) := by decide +kernel
theorem d_M_chunks_6 : decode prog_11_method_23_code 6 = .ok (.getfield 111, 3) := by decide +kernel
theorem d_M_chunks_9 : decode prog_11_method_23_code 9 = .ok (.ireturn, 1) := by decide +kernel
theorem d_M_versions_0 : decode prog_11_method_24_code 0 = .ok (.aload_n 0, 1) := by decide +kernel
theorem d_M_versions_1 : decode prog_11_method_24_code 1 = .ok (.iconst 0, 1) := by decide +kernel
theorem d_M_versions_2 : decode prog_11_method_24_code 2 = .ok (.putfield 73, 3) := by decide +kernel
theorem d_M_versions_5 : decode prog_11_method_24_code 5 = .ok (.aload_n 0, 1) := by decide +kernel
theorem d_M_versions_6 : decode prog_11_method_24_code 6 = .ok (.getfield 69, 3) := by decide +kernel
theorem d_M_versions_9 : decode prog_11_method_24_code 9 = .ok (.ireturn, 1) := by decide +kernel
theorem d_M_get_0 : decode prog_11_method_26_code 0 = .ok (.iload_n 1, 1) := by decide +kernel
theorem d_M_get_1 : decode prog_11_method_26_code 1 = .ok (.iconst (-1), 1) := by decide +kernel
theorem d_M_get_2 : decode prog_11_method_26_code 2 = .ok (.if_icmp .eq 11, 3) := by decide +kernel
theorem d_M_get_5 : decode prog_11_method_26_code 5 = .ok (.aload_n 0, 1) := by decide +kernel
theorem d_M_get_6 : decode prog_11_method_26_code 6 = .ok (.iload_n 1, 1) := by decide +kernel
theorem d_M_get_7 : decode prog_11_method_26_code 7 = .ok (.invokevirtual 142, 3) := by decide +kernel
theorem d_M_get_10 : decode prog_11_method_26_code 10 = .ok (.ifCond .eq 13, 3) := by decide +kernel
theorem d_M_get_13 : decode prog_11_method_26_code 13 = .ok (.iload_n 2, 1) := by decide +kernel
theorem d_M_get_14 : decode prog_11_method_26_code 14 = .ok (.iconst 0, 1) := by decide +kernel
theorem d_M_get_15 : decode prog_11_method_26_code 15 = .ok (.bipush 47, 2) := by decide +kernel
theorem d_M_get_17 : decode prog_11_method_26_code 17 = .ok (.invokestatic 99, 3) := by decide +kernel
theorem d_M_get_20 : decode prog_11_method_26_code 20 = .ok (.ifCond .eq 9, 3) := by decide +kernel
theorem d_M_get_23 : decode prog_11_method_26_code 23 = .ok (.aload_n 0, 1) := by decide +kernel
theorem d_M_get_24 : decode prog_11_method_26_code 24 = .ok (.iconst 1, 1) := by decide +kernel
theorem d_M_get_25 : decode prog_11_method_26_code 25 = .ok (.invokevirtual 130, 3) := by decide +kernel
theorem d_M_get_28 : decode prog_11_method_26_code 28 = .ok (.ireturn, 1) := by decide +kernel
theorem d_M_get_29 : decode prog_11_method_26_code 29 = .ok (.bipush 48, 2) := by decide +kernel
theorem d_M_get_31 : decode prog_11_method_26_code 31 = .ok (.iload_n 1, 1) := by decide +kernel
theorem d_M_get_32 : decode prog_11_method_26_code 32 = .ok (.iconst (-1), 1) := by decide +kernel
theorem d_M_get_33 : decode prog_11_method_26_code 33 = .ok (.if_icmp .ne 8, 3) := by decide +kernel
theorem d_M_get_36 : decode prog_11_method_26_code 36 = .ok (.bipush 16, 2) := by decide +kernel
theorem d_M_get_38 : decode prog_11_method_26_code 38 = .ok (.goto 4, 3) := by decide +kernel
theorem d_M_get_41 : decode prog_11_method_26_code 41 = .ok (.iload_n 1, 1) := by decide +kernel
theorem d_M_get_42 : decode prog_11_method_26_code 42 = .ok (.imul, 1) := by decide +kernel
theorem d_M_get_43 : decode prog_11_method_26_code 43 = .ok (.iload_n 2, 1) := by decide +kernel
theorem d_M_get_44 : decode prog_11_method_26_code 44 = .ok (.iadd, 1) := by decide +kernel
theorem d_M_get_45 : decode prog_11_method_26_code 45 = .ok (.istore_n 3, 1) := by decide +kernel
theorem d_M_get_46 : decode prog_11_method_26_code 46 = .ok (.aload_n 0, 1) := by decide +kernel
theorem d_M_get_47 : decode prog_11_method_26_code 47 = .ok (.getfield 7, 3) := by decide +kernel
theorem d_M_get_50 : decode prog_11_method_26_code 50 = .ok (.iload_n 3, 1) := by decide +kernel
theorem d_M_get_51 : decode prog_11_method_26_code 51 = .ok (.baload, 1) := by decide +kernel
theorem d_M_get_52 : decode prog_11_method_26_code 52 = .ok (.ifCond .ne 9, 3) := by decide +kernel
theorem d_M_get_55 : decode prog_11_method_26_code 55 = .ok (.aload_n 0, 1) := by decide +kernel
theorem d_M_get_56 : decode prog_11_method_26_code 56 = .ok (.iconst 2, 1) := by decide +kernel
theorem d_M_get_57 : decode prog_11_method_26_code 57 = .ok (.invokevirtual 130, 3) := by decide +kernel
theorem d_M_get_60 : decode prog_11_method_26_code 60 = .ok (.ireturn, 1) := by decide +kernel
theorem d_M_get_61 : decode prog_11_method_26_code 61 = .ok (.aload_n 0, 1) := by decide +kernel
theorem d_M_get_62 : decode prog_11_method_26_code 62 = .ok (.iconst 0, 1) := by decide +kernel
theorem d_M_get_63 : decode prog_11_method_26_code 63 = .ok (.putfield 73, 3) := by decide +kernel
theorem d_M_get_66 : decode prog_11_method_26_code 66 = .ok (.aload_n 0, 1) := by decide +kernel
theorem d_M_get_67 : decode prog_11_method_26_code 67 = .ok (.getfield 13, 3) := by decide +kernel
theorem d_M_get_70 : decode prog_11_method_26_code 70 = .ok (.iload_n 3, 1) := by decide +kernel
theorem d_M_get_71 : decode prog_11_method_26_code 71 = .ok (.iaload, 1) := by decide +kernel
theorem d_M_get_72 : decode prog_11_method_26_code 72 = .ok (.ireturn, 1) := by decide +kernel
theorem d_M_isVersion_0 : decode prog_11_method_25_code 0 = .ok (.iload_n 1, 1) := by decide +kernel
theorem d_M_isVersion_1 : decode prog_11_method_25_code 1 = .ok (.iconst 0, 1) := by decide +kernel
theorem d_M_isVersion_2 : decode prog_11_method_25_code 2 = .ok (.aload_n 0, 1) := by decide +kernel
theorem d_M_isVersion_3 : decode prog_11_method_25_code 3 = .ok (.getfield 69, 3) := by decide +kernel
theorem d_M_isVersion_6 : decode prog_11_method_25_code 6 = .ok (.iconst 1, 1) := by decide +kernel
theorem d_M_isVersion_7 : decode prog_11_method_25_code 7 = .ok (.isub, 1) := by decide +kernel
theorem d_M_isVersion_8 : decode prog_11_method_25_code 8 = .ok (.invokestatic 99, 3) := by decide +kernel
theorem d_M_isVersion_11 : decode prog_11_method_25_code 11 = .ok (.ifCond .ne 7, 3) := by decide +kernel
theorem d_M_isVersion_14 : decode prog_11_method_25_code 14 = .ok (.iconst 1, 1) := by decide +kernel
theorem d_M_isVersion_15 : decode prog_11_method_25_code 15 = .ok (.goto 4, 3) := by decide +kernel
theorem d_M_isVersion_18 : decode prog_11_method_25_code 18 = .ok (.iconst 0, 1) := by decide +kernel
theorem d_M_isVersion_19 : decode prog_11_method_25_code 19 = .ok (.ireturn, 1) := by decide +kernel
theorem d_M_range_0 : decode prog_11_method_27_code 0 = .ok (.aload_n 0, 1) := by decide +kernel
theorem d_M_range_1 : decode prog_11_method_27_code 1 = .ok (.iload_n 1, 1) := by decide +kernel
theorem d_M_range_2 : decode prog_11_method_27_code 2 = .ok (.invokevirtual 142, 3) := by decide +kernel
theorem d_M_range_5 : decode prog_11_method_27_code 5 = .ok (.ifCond .ne 9, 3) := by decide +kernel
theorem d_M_range_8 : decode prog_11_method_27_code 8 = .ok (.aload_n 0, 1) := by decide +kernel
theorem d_M_range_9 : decode prog_11_method_27_code 9 = .ok (.iconst 1, 1) := by decide +kernel
theorem d_M_range_10 : decode prog_11_method_27_code 10 = .ok (.invokevirtual 130, 3) := by decide +kernel
theorem d_M_range_13 : decode prog_11_method_27_code 13 = .ok (.ireturn, 1) := by decide +kernel
theorem d_M_range_14 : decode prog_11_method_27_code 14 = .ok (.aload_n 0, 1) := by decide +kernel
theorem d_M_range_15 : decode prog_11_method_27_code 15 = .ok (.iconst 0, 1) := by decide +kernel
theorem d_M_range_16 : decode prog_11_method_27_code 16 = .ok (.putfield 73, 3) := by decide +kernel
theorem d_M_range_19 : decode prog_11_method_27_code 19 = .ok (.iconst 0, 1) := by decide +kernel
theorem d_M_range_20 : decode prog_11_method_27_code 20 = .ok (.istore 4, 2) := by decide +kernel
theorem d_M_range_22 : decode prog_11_method_27_code 22 = .ok (.iconst 0, 1) := by decide +kernel
theorem d_M_range_23 : decode prog_11_method_27_code 23 = .ok (.istore 5, 2) := by decide +kernel
theorem d_M_range_25 : decode prog_11_method_27_code 25 = .ok (.iload 5, 2) := by decide +kernel
theorem d_M_range_27 : decode prog_11_method_27_code 27 = .ok (.bipush 48, 2) := by decide +kernel
theorem d_M_range_29 : decode prog_11_method_27_code 29 = .ok (.if_icmp .ge 47, 3) := by decide +kernel
theorem d_M_range_32 : decode prog_11_method_27_code 32 = .ok (.aload_n 0, 1) := by decide +kernel
theorem d_M_range_33 : decode prog_11_method_27_code 33 = .ok (.getfield 7, 3) := by decide +kernel
theorem d_M_range_36 : decode prog_11_method_27_code 36 = .ok (.bipush 48, 2) := by decide +kernel
theorem d_M_range_38 : decode prog_11_method_27_code 38 = .ok (.iload_n 1, 1) := by decide +kernel
theorem d_M_range_39 : decode prog_11_method_27_code 39 = .ok (.imul, 1) := by decide +kernel
theorem d_M_range_40 : decode prog_11_method_27_code 40 = .ok (.iload 5, 2) := by decide +kernel
theorem d_M_range_42 : decode prog_11_method_27_code 42 = .ok (.iadd, 1) := by decide +kernel
theorem d_M_range_43 : decode prog_11_method_27_code 43 = .ok (.baload, 1) := by decide +kernel
theorem d_M_range_44 : decode prog_11_method_27_code 44 = .ok (.ifCond .eq 22, 3) := by decide +kernel
theorem d_M_range_47 : decode prog_11_method_27_code 47 = .ok (.iload 5, 2) := by decide +kernel
theorem d_M_range_49 : decode prog_11_method_27_code 49 = .ok (.iload_n 2, 1) := by decide +kernel
theorem d_M_range_50 : decode prog_11_method_27_code 50 = .ok (.if_icmp .lt 16, 3) := by decide +kernel
theorem d_M_range_53 : decode prog_11_method_27_code 53 = .ok (.iload 5, 2) := by decide +kernel
theorem d_M_range_55 : decode prog_11_method_27_code 55 = .ok (.iload_n 3, 1) := by decide +kernel
theorem d_M_range_56 : decode prog_11_method_27_code 56 = .ok (.if_icmp .gt 10, 3) := by decide +kernel
theorem d_M_range_59 : decode prog_11_method_27_code 59 = .ok (.iload 4, 2) := by decide +kernel
theorem d_M_range_61 : decode prog_11_method_27_code 61 = .ok (.iconst 1, 1) := by decide +kernel
theorem d_M_range_62 : decode prog_11_method_27_code 62 = .ok (.iadd, 1) := by decide +kernel
theorem d_M_range_63 : decode prog_11_method_27_code 63 = .ok (.goto 5, 3) := by decide +kernel
theorem d_M_range_66 : decode prog_11_method_27_code 66 = .ok (.iload 4, 2) := by decide +kernel
theorem d_M_range_68 : decode prog_11_method_27_code 68 = .ok (.istore 4, 2) := by decide +kernel
theorem d_M_range_70 : decode prog_11_method_27_code 70 = .ok (.iinc 5 1, 3) := by decide +kernel
theorem d_M_range_73 : decode prog_11_method_27_code 73 = .ok (.goto (-48), 3) := by decide +kernel
theorem d_M_range_76 : decode prog_11_method_27_code 76 = .ok (.iload 4, 2) := by decide +kernel
theorem d_M_range_78 : decode prog_11_method_27_code 78 = .ok (.ireturn, 1) := by decide +kernel
theorem d_M_root_0 : decode prog_11_method_28_code 0 = .ok (.aload_n 0, 1) := by decide +kernel
theorem d_M_root_1 : decode prog_11_method_28_code 1 = .ok (.iload_n 1, 1) := by decide +kernel
theorem d_M_root_2 : decode prog_11_method_28_code 2 = .ok (.invokevirtual 142, 3) := by decide +kernel
theorem d_M_root_5 : decode prog_11_method_28_code 5 = .ok (.ifCond .ne 9, 3) := by decide +kernel
theorem d_M_root_8 : decode prog_11_method_28_code 8 = .ok (.aload_n 0, 1) := by decide +kernel
theorem d_M_root_9 : decode prog_11_method_28_code 9 = .ok (.iconst 1, 1) := by decide +kernel
theorem d_M_root_10 : decode prog_11_method_28_code 10 = .ok (.invokevirtual 130, 3) := by decide +kernel
theorem d_M_root_13 : decode prog_11_method_28_code 13 = .ok (.ireturn, 1) := by decide +kernel
theorem d_M_root_14 : decode prog_11_method_28_code 14 = .ok (.aload_n 0, 1) := by decide +kernel
theorem d_M_root_15 : decode prog_11_method_28_code 15 = .ok (.iconst 0, 1) := by decide +kernel
theorem d_M_root_16 : decode prog_11_method_28_code 16 = .ok (.putfield 73, 3) := by decide +kernel
theorem d_M_root_19 : decode prog_11_method_28_code 19 = .ok (.aload_n 0, 1) := by decide +kernel
theorem d_M_root_20 : decode prog_11_method_28_code 20 = .ok (.getfield 17, 3) := by decide +kernel
theorem d_M_root_23 : decode prog_11_method_28_code 23 = .ok (.iload_n 1, 1) := by decide +kernel
theorem d_M_root_24 : decode prog_11_method_28_code 24 = .ok (.iaload, 1) := by decide +kernel
theorem d_M_root_25 : decode prog_11_method_28_code 25 = .ok (.ireturn, 1) := by decide +kernel
theorem d_M_digest_0 : decode prog_11_method_32_code 0 = .ok (.iload_n 1, 1) := by decide +kernel
theorem d_M_digest_1 : decode prog_11_method_32_code 1 = .ok (.iconst 0, 1) := by decide +kernel
theorem d_M_digest_2 : decode prog_11_method_32_code 2 = .ok (.aload_n 0, 1) := by decide +kernel
theorem d_M_digest_3 : decode prog_11_method_32_code 3 = .ok (.getfield 69, 3) := by decide +kernel
theorem d_M_digest_6 : decode prog_11_method_32_code 6 = .ok (.invokestatic 99, 3) := by decide +kernel
theorem d_M_digest_9 : decode prog_11_method_32_code 9 = .ok (.ifCond .eq 9, 3) := by decide +kernel
theorem d_M_digest_12 : decode prog_11_method_32_code 12 = .ok (.aload_n 0, 1) := by decide +kernel
theorem d_M_digest_13 : decode prog_11_method_32_code 13 = .ok (.iconst 1, 1) := by decide +kernel
theorem d_M_digest_14 : decode prog_11_method_32_code 14 = .ok (.invokevirtual 130, 3) := by decide +kernel
theorem d_M_digest_17 : decode prog_11_method_32_code 17 = .ok (.ireturn, 1) := by decide +kernel
theorem d_M_digest_18 : decode prog_11_method_32_code 18 = .ok (.aload_n 0, 1) := by decide +kernel
theorem d_M_digest_19 : decode prog_11_method_32_code 19 = .ok (.iconst 0, 1) := by decide +kernel
theorem d_M_digest_20 : decode prog_11_method_32_code 20 = .ok (.putfield 73, 3) := by decide +kernel
theorem d_M_digest_23 : decode prog_11_method_32_code 23 = .ok (.aload_n 0, 1) := by decide +kernel
theorem d_M_digest_24 : decode prog_11_method_32_code 24 = .ok (.iconst 0, 1) := by decide +kernel
theorem d_M_digest_25 : decode prog_11_method_32_code 25 = .ok (.iload_n 1, 1) := by decide +kernel
theorem d_M_digest_26 : decode prog_11_method_32_code 26 = .ok (.invokevirtual 152, 3) := by decide +kernel
theorem d_M_digest_29 : decode prog_11_method_32_code 29 = .ok (.ireturn, 1) := by decide +kernel
theorem d_M_seal_0 : decode prog_11_method_31_code 0 = .ok (.iconst 0, 1) := by decide +kernel
theorem d_M_seal_1 : decode prog_11_method_31_code 1 = .ok (.istore_n 3, 1) := by decide +kernel
theorem d_M_seal_2 : decode prog_11_method_31_code 2 = .ok (.iload_n 1, 1) := by decide +kernel
theorem d_M_seal_3 : decode prog_11_method_31_code 3 = .ok (.istore 4, 2) := by decide +kernel
theorem d_M_seal_5 : decode prog_11_method_31_code 5 = .ok (.iload 4, 2) := by decide +kernel
theorem d_M_seal_7 : decode prog_11_method_31_code 7 = .ok (.iload_n 1, 1) := by decide +kernel
theorem d_M_seal_8 : decode prog_11_method_31_code 8 = .ok (.iload_n 2, 1) := by decide +kernel
theorem d_M_seal_9 : decode prog_11_method_31_code 9 = .ok (.iadd, 1) := by decide +kernel
theorem d_M_seal_10 : decode prog_11_method_31_code 10 = .ok (.if_icmp .ge 125, 3) := by decide +kernel
theorem d_M_seal_13 : decode prog_11_method_31_code 13 = .ok (.aload_n 0, 1) := by decide +kernel
theorem d_M_seal_14 : decode prog_11_method_31_code 14 = .ok (.getfield 39, 3) := by decide +kernel
theorem d_M_seal_17 : decode prog_11_method_31_code 17 = .ok (.iload_n 3, 1) := by decide +kernel
theorem d_M_seal_18 : decode prog_11_method_31_code 18 = .ok (.iload 4, 2) := by decide +kernel
theorem d_M_seal_20 : decode prog_11_method_31_code 20 = .ok (.aload_n 0, 1) := by decide +kernel
theorem d_M_seal_21 : decode prog_11_method_31_code 21 = .ok (.getfield 17, 3) := by decide +kernel
theorem d_M_seal_24 : decode prog_11_method_31_code 24 = .ok (.iload 4, 2) := by decide +kernel
theorem d_M_seal_26 : decode prog_11_method_31_code 26 = .ok (.iaload, 1) := by decide +kernel
theorem d_M_seal_27 : decode prog_11_method_31_code 27 = .ok (.invokestatic 146, 3) := by decide +kernel
theorem d_M_seal_30 : decode prog_11_method_31_code 30 = .ok (.iastore, 1) := by decide +kernel
theorem d_M_seal_31 : decode prog_11_method_31_code 31 = .ok (.aload_n 0, 1) := by decide +kernel
theorem d_M_seal_32 : decode prog_11_method_31_code 32 = .ok (.getfield 42, 3) := by decide +kernel
theorem d_M_seal_35 : decode prog_11_method_31_code 35 = .ok (.iload_n 3, 1) := by decide +kernel
theorem d_M_seal_36 : decode prog_11_method_31_code 36 = .ok (.iconst 1, 1) := by decide +kernel
theorem d_M_seal_37 : decode prog_11_method_31_code 37 = .ok (.iastore, 1) := by decide +kernel
theorem d_M_seal_38 : decode prog_11_method_31_code 38 = .ok (.iinc 3 1, 3) := by decide +kernel
theorem d_M_seal_41 : decode prog_11_method_31_code 41 = .ok (.iload_n 3, 1) := by decide +kernel
theorem d_M_seal_42 : decode prog_11_method_31_code 42 = .ok (.iconst 1, 1) := by decide +kernel
theorem d_M_seal_43 : decode prog_11_method_31_code 43 = .ok (.if_icmp .le 86, 3) := by decide +kernel
theorem d_M_seal_46 : decode prog_11_method_31_code 46 = .ok (.aload_n 0, 1) := by decide +kernel
theorem d_M_seal_47 : decode prog_11_method_31_code 47 = .ok (.getfield 42, 3) := by decide +kernel
theorem d_M_seal_50 : decode prog_11_method_31_code 50 = .ok (.iload_n 3, 1) := by decide +kernel
theorem d_M_seal_51 : decode prog_11_method_31_code 51 = .ok (.iconst 2, 1) := by decide +kernel
theorem d_M_seal_52 : decode prog_11_method_31_code 52 = .ok (.isub, 1) := by decide +kernel
theorem d_M_seal_53 : decode prog_11_method_31_code 53 = .ok (.iaload, 1) := by decide +kernel
theorem d_M_seal_54 : decode prog_11_method_31_code 54 = .ok (.aload_n 0, 1) := by decide +kernel
theorem d_M_seal_55 : decode prog_11_method_31_code 55 = .ok (.getfield 42, 3) := by decide +kernel
theorem d_M_seal_58 : decode prog_11_method_31_code 58 = .ok (.iload_n 3, 1) := by decide +kernel
theorem d_M_seal_59 : decode prog_11_method_31_code 59 = .ok (.iconst 1, 1) := by decide +kernel
theorem d_M_seal_60 : decode prog_11_method_31_code 60 = .ok (.isub, 1) := by decide +kernel
theorem d_M_seal_61 : decode prog_11_method_31_code 61 = .ok (.iaload, 1) := by decide +kernel
theorem d_M_seal_62 : decode prog_11_method_31_code 62 = .ok (.if_icmp .eq 13, 3) := by decide +kernel
theorem d_M_seal_65 : decode prog_11_method_31_code 65 = .ok (.iload 4, 2) := by decide +kernel
theorem d_M_seal_67 : decode prog_11_method_31_code 67 = .ok (.iload_n 1, 1) := by decide +kernel
theorem d_M_seal_68 : decode prog_11_method_31_code 68 = .ok (.iload_n 2, 1) := by decide +kernel
theorem d_M_seal_69 : decode prog_11_method_31_code 69 = .ok (.iadd, 1) := by decide +kernel
theorem d_M_seal_70 : decode prog_11_method_31_code 70 = .ok (.iconst 1, 1) := by decide +kernel
theorem d_M_seal_71 : decode prog_11_method_31_code 71 = .ok (.isub, 1) := by decide +kernel
theorem d_M_seal_72 : decode prog_11_method_31_code 72 = .ok (.if_icmp .ne 57, 3) := by decide +kernel
theorem d_M_seal_75 : decode prog_11_method_31_code 75 = .ok (.iinc 3 (-1), 3) := by decide +kernel
theorem d_M_seal_78 : decode prog_11_method_31_code 78 = .ok (.aload_n 0, 1) := by decide +kernel
theorem d_M_seal_79 : decode prog_11_method_31_code 79 = .ok (.getfield 39, 3) := by decide +kernel
theorem d_M_seal_82 : decode prog_11_method_31_code 82 = .ok (.iload_n 3, 1) := by decide +kernel
theorem d_M_seal_83 : decode prog_11_method_31_code 83 = .ok (.iconst 1, 1) := by decide +kernel
theorem d_M_seal_84 : decode prog_11_method_31_code 84 = .ok (.isub, 1) := by decide +kernel
theorem d_M_seal_85 : decode prog_11_method_31_code 85 = .ok (.aload_n 0, 1) := by decide +kernel
theorem d_M_seal_86 : decode prog_11_method_31_code 86 = .ok (.getfield 39, 3) := by decide +kernel
theorem d_M_seal_89 : decode prog_11_method_31_code 89 = .ok (.iload_n 3, 1) := by decide +kernel
theorem d_M_seal_90 : decode prog_11_method_31_code 90 = .ok (.iconst 1, 1) := by decide +kernel
theorem d_M_seal_91 : decode prog_11_method_31_code 91 = .ok (.isub, 1) := by decide +kernel
theorem d_M_seal_92 : decode prog_11_method_31_code 92 = .ok (.iaload, 1) := by decide +kernel
theorem d_M_seal_93 : decode prog_11_method_31_code 93 = .ok (.aload_n 0, 1) := by decide +kernel
theorem d_M_seal_94 : decode prog_11_method_31_code 94 = .ok (.getfield 39, 3) := by decide +kernel
theorem d_M_seal_97 : decode prog_11_method_31_code 97 = .ok (.iload_n 3, 1) := by decide +kernel
theorem d_M_seal_98 : decode prog_11_method_31_code 98 = .ok (.iaload, 1) := by decide +kernel
theorem d_M_seal_99 : decode prog_11_method_31_code 99 = .ok (.invokestatic 149, 3) := by decide +kernel
theorem d_M_seal_102 : decode prog_11_method_31_code 102 = .ok (.iastore, 1) := by decide +kernel
theorem d_M_seal_103 : decode prog_11_method_31_code 103 = .ok (.aload_n 0, 1) := by decide +kernel
theorem d_M_seal_104 : decode prog_11_method_31_code 104 = .ok (.getfield 42, 3) := by decide +kernel
theorem d_M_seal_107 : decode prog_11_method_31_code 107 = .ok (.iload_n 3, 1) := by decide +kernel
theorem d_M_seal_108 : decode prog_11_method_31_code 108 = .ok (.iconst 1, 1) := by decide +kernel
theorem d_M_seal_109 : decode prog_11_method_31_code 109 = .ok (.isub, 1) := by decide +kernel
theorem d_M_seal_110 : decode prog_11_method_31_code 110 = .ok (.aload_n 0, 1) := by decide +kernel
theorem d_M_seal_111 : decode prog_11_method_31_code 111 = .ok (.getfield 42, 3) := by decide +kernel
theorem d_M_seal_114 : decode prog_11_method_31_code 114 = .ok (.iload_n 3, 1) := by decide +kernel
theorem d_M_seal_115 : decode prog_11_method_31_code 115 = .ok (.iconst 1, 1) := by decide +kernel
theorem d_M_seal_116 : decode prog_11_method_31_code 116 = .ok (.isub, 1) := by decide +kernel
theorem d_M_seal_117 : decode prog_11_method_31_code 117 = .ok (.iaload, 1) := by decide +kernel
theorem d_M_seal_118 : decode prog_11_method_31_code 118 = .ok (.aload_n 0, 1) := by decide +kernel
theorem d_M_seal_119 : decode prog_11_method_31_code 119 = .ok (.getfield 42, 3) := by decide +kernel
theorem d_M_seal_122 : decode prog_11_method_31_code 122 = .ok (.iload_n 3, 1) := by decide +kernel
theorem d_M_seal_123 : decode prog_11_method_31_code 123 = .ok (.iaload, 1) := by decide +kernel
theorem d_M_seal_124 : decode prog_11_method_31_code 124 = .ok (.iadd, 1) := by decide +kernel
theorem d_M_seal_125 : decode prog_11_method_31_code 125 = .ok (.iastore, 1) := by decide +kernel
theorem d_M_seal_126 : decode prog_11_method_31_code 126 = .ok (.goto (-85), 3) := by decide +kernel
theorem d_M_seal_129 : decode prog_11_method_31_code 129 = .ok (.iinc 4 1, 3) := by decide +kernel
theorem d_M_seal_132 : decode prog_11_method_31_code 132 = .ok (.goto (-127), 3) := by decide +kernel
theorem d_M_seal_135 : decode prog_11_method_31_code 135 = .ok (.iload_n 2, 1) := by decide +kernel
theorem d_M_seal_136 : decode prog_11_method_31_code 136 = .ok (.ifCond .ne 7, 3) := by decide +kernel
theorem d_M_seal_139 : decode prog_11_method_31_code 139 = .ok (.iconst 0, 1) := by decide +kernel
theorem d_M_seal_140 : decode prog_11_method_31_code 140 = .ok (.goto 9, 3) := by decide +kernel
theorem d_M_seal_143 : decode prog_11_method_31_code 143 = .ok (.aload_n 0, 1) := by decide +kernel
theorem d_M_seal_144 : decode prog_11_method_31_code 144 = .ok (.getfield 39, 3) := by decide +kernel
theorem d_M_seal_147 : decode prog_11_method_31_code 147 = .ok (.iconst 0, 1) := by decide +kernel
theorem d_M_seal_148 : decode prog_11_method_31_code 148 = .ok (.iaload, 1) := by decide +kernel
theorem d_M_seal_149 : decode prog_11_method_31_code 149 = .ok (.ireturn, 1) := by decide +kernel
theorem d_M_leafOf_0 : decode prog_11_method_29_code 0 = .ok (.bipush 7, 2) := by decide +kernel
theorem d_M_leafOf_2 : decode prog_11_method_29_code 2 = .ok (.iload_n 0, 1) := by decide +kernel
theorem d_M_leafOf_3 : decode prog_11_method_29_code 3 = .ok (.invokestatic 77, 3) := by decide +kernel
theorem d_M_leafOf_6 : decode prog_11_method_29_code 6 = .ok (.iload_n 1, 1) := by decide +kernel
theorem d_M_leafOf_7 : decode prog_11_method_29_code 7 = .ok (.invokestatic 77, 3) := by decide +kernel
theorem d_M_leafOf_10 : decode prog_11_method_29_code 10 = .ok (.ireturn, 1) := by decide +kernel
theorem d_M_join_0 : decode prog_11_method_30_code 0 = .ok (.bipush 8, 2) := by decide +kernel
theorem d_M_join_2 : decode prog_11_method_30_code 2 = .ok (.iload_n 0, 1) := by decide +kernel
theorem d_M_join_3 : decode prog_11_method_30_code 3 = .ok (.invokestatic 77, 3) := by decide +kernel
theorem d_M_join_6 : decode prog_11_method_30_code 6 = .ok (.iload_n 1, 1) := by decide +kernel
theorem d_M_join_7 : decode prog_11_method_30_code 7 = .ok (.invokestatic 77, 3) := by decide +kernel
theorem d_M_join_10 : decode prog_11_method_30_code 10 = .ok (.ireturn, 1) := by decide +kernel
theorem d_M_prove_0 : decode prog_11_method_43_code 0 = .ok (.iload_n 1, 1) := by decide +kernel
theorem d_M_prove_1 : decode prog_11_method_43_code 1 = .ok (.iconst 1, 1) := by decide +kernel
theorem d_M_prove_2 : decode prog_11_method_43_code 2 = .ok (.aload_n 0, 1) := by decide +kernel
theorem d_M_prove_3 : decode prog_11_method_43_code 3 = .ok (.getfield 69, 3) := by decide +kernel
theorem d_M_prove_6 : decode prog_11_method_43_code 6 = .ok (.invokestatic 99, 3) := by decide +kernel
theorem d_M_prove_9 : decode prog_11_method_43_code 9 = .ok (.ifCond .ne 24, 3) := by decide +kernel
theorem d_M_prove_12 : decode prog_11_method_43_code 12 = .ok (.iload_n 2, 1) := by decide +kernel
theorem d_M_prove_13 : decode prog_11_method_43_code 13 = .ok (.iconst 0, 1) := by decide +kernel
theorem d_M_prove_14 : decode prog_11_method_43_code 14 = .ok (.iload_n 1, 1) := by decide +kernel
theorem d_M_prove_15 : decode prog_11_method_43_code 15 = .ok (.iconst 1, 1) := by decide +kernel
theorem d_M_prove_16 : decode prog_11_method_43_code 16 = .ok (.isub, 1) := by decide +kernel
theorem d_M_prove_17 : decode prog_11_method_43_code 17 = .ok (.invokestatic 99, 3) := by decide +kernel
theorem d_M_prove_20 : decode prog_11_method_43_code 20 = .ok (.ifCond .ne 13, 3) := by decide +kernel
theorem d_M_prove_23 : decode prog_11_method_43_code 23 = .ok (.iload_n 3, 1) := by decide +kernel
theorem d_M_prove_24 : decode prog_11_method_43_code 24 = .ok (.iconst 0, 1) := by decide +kernel
theorem d_M_prove_25 : decode prog_11_method_43_code 25 = .ok (.bipush 47, 2) := by decide +kernel
theorem d_M_prove_27 : decode prog_11_method_43_code 27 = .ok (.invokestatic 99, 3) := by decide +kernel
theorem d_M_prove_30 : decode prog_11_method_43_code 30 = .ok (.ifCond .eq 9, 3) := by decide +kernel
theorem d_M_prove_33 : decode prog_11_method_43_code 33 = .ok (.aload_n 0, 1) := by decide +kernel
theorem d_M_prove_34 : decode prog_11_method_43_code 34 = .ok (.iconst 1, 1) := by decide +kernel
theorem d_M_prove_35 : decode prog_11_method_43_code 35 = .ok (.invokevirtual 130, 3) := by decide +kernel
theorem d_M_prove_38 : decode prog_11_method_43_code 38 = .ok (.ireturn, 1) := by decide +kernel
theorem d_M_prove_39 : decode prog_11_method_43_code 39 = .ok (.aload_n 0, 1) := by decide +kernel
theorem d_M_prove_40 : decode prog_11_method_43_code 40 = .ok (.iconst 0, 1) := by decide +kernel
theorem d_M_prove_41 : decode prog_11_method_43_code 41 = .ok (.putfield 73, 3) := by decide +kernel
theorem d_M_prove_44 : decode prog_11_method_43_code 44 = .ok (.aload_n 0, 1) := by decide +kernel
theorem d_M_prove_45 : decode prog_11_method_43_code 45 = .ok (.iload_n 1, 1) := by decide +kernel
theorem d_M_prove_46 : decode prog_11_method_43_code 46 = .ok (.iload_n 2, 1) := by decide +kernel
theorem d_M_prove_47 : decode prog_11_method_43_code 47 = .ok (.invokevirtual 175, 3) := by decide +kernel
theorem d_M_prove_50 : decode prog_11_method_43_code 50 = .ok (.aload_n 0, 1) := by decide +kernel
theorem d_M_prove_51 : decode prog_11_method_43_code 51 = .ok (.invokevirtual 178, 3) := by decide +kernel
theorem d_M_prove_54 : decode prog_11_method_43_code 54 = .ok (.aload_n 0, 1) := by decide +kernel
theorem d_M_prove_55 : decode prog_11_method_43_code 55 = .ok (.iload_n 2, 1) := by decide +kernel
theorem d_M_prove_56 : decode prog_11_method_43_code 56 = .ok (.invokevirtual 133, 3) := by decide +kernel
theorem d_M_prove_59 : decode prog_11_method_43_code 59 = .ok (.pop, 1) := by decide +kernel
theorem d_M_prove_60 : decode prog_11_method_43_code 60 = .ok (.aload_n 0, 1) := by decide +kernel
theorem d_M_prove_61 : decode prog_11_method_43_code 61 = .ok (.aload_n 0, 1) := by decide +kernel
theorem d_M_prove_62 : decode prog_11_method_43_code 62 = .ok (.getfield 89, 3) := by decide +kernel
theorem d_M_prove_65 : decode prog_11_method_43_code 65 = .ok (.invokevirtual 168, 3) := by decide +kernel
theorem d_M_prove_68 : decode prog_11_method_43_code 68 = .ok (.aload_n 0, 1) := by decide +kernel
theorem d_M_prove_69 : decode prog_11_method_43_code 69 = .ok (.getfield 89, 3) := by decide +kernel
theorem d_M_prove_72 : decode prog_11_method_43_code 72 = .ok (.iconst 1, 1) := by decide +kernel
theorem d_M_prove_73 : decode prog_11_method_43_code 73 = .ok (.isub, 1) := by decide +kernel
theorem d_M_prove_74 : decode prog_11_method_43_code 74 = .ok (.istore 4, 2) := by decide +kernel
theorem d_M_prove_76 : decode prog_11_method_43_code 76 = .ok (.iload 4, 2) := by decide +kernel
theorem d_M_prove_78 : decode prog_11_method_43_code 78 = .ok (.ifCond .lt 69, 3) := by decide +kernel
theorem d_M_prove_81 : decode prog_11_method_43_code 81 = .ok (.aload_n 0, 1) := by decide +kernel
theorem d_M_prove_82 : decode prog_11_method_43_code 82 = .ok (.getfield 33, 3) := by decide +kernel
theorem d_M_prove_85 : decode prog_11_method_43_code 85 = .ok (.bipush 48, 2) := by decide +kernel
theorem d_M_prove_87 : decode prog_11_method_43_code 87 = .ok (.iload 4, 2) := by decide +kernel
theorem d_M_prove_89 : decode prog_11_method_43_code 89 = .ok (.imul, 1) := by decide +kernel
theorem d_M_prove_90 : decode prog_11_method_43_code 90 = .ok (.bipush 48, 2) := by decide +kernel
theorem d_M_prove_92 : decode prog_11_method_43_code 92 = .ok (.iload 4, 2) := by decide +kernel
theorem d_M_prove_94 : decode prog_11_method_43_code 94 = .ok (.imul, 1) := by decide +kernel
theorem d_M_prove_95 : decode prog_11_method_43_code 95 = .ok (.aload_n 0, 1) := by decide +kernel
theorem d_M_prove_96 : decode prog_11_method_43_code 96 = .ok (.getfield 30, 3) := by decide +kernel
theorem d_M_prove_99 : decode prog_11_method_43_code 99 = .ok (.iload 4, 2) := by decide +kernel
theorem d_M_prove_101 : decode prog_11_method_43_code 101 = .ok (.iaload, 1) := by decide +kernel
theorem d_M_prove_102 : decode prog_11_method_43_code 102 = .ok (.iadd, 1) := by decide +kernel
theorem d_M_prove_103 : decode prog_11_method_43_code 103 = .ok (.iload_n 3, 1) := by decide +kernel
theorem d_M_prove_104 : decode prog_11_method_43_code 104 = .ok (.invokestatic 181, 3) := by decide +kernel
theorem d_M_prove_107 : decode prog_11_method_43_code 107 = .ok (.bipush 48, 2) := by decide +kernel
theorem d_M_prove_109 : decode prog_11_method_43_code 109 = .ok (.iload 4, 2) := by decide +kernel
theorem d_M_prove_111 : decode prog_11_method_43_code 111 = .ok (.imul, 1) := by decide +kernel
theorem d_M_prove_112 : decode prog_11_method_43_code 112 = .ok (.isub, 1) := by decide +kernel
theorem d_M_prove_113 : decode prog_11_method_43_code 113 = .ok (.istore 5, 2) := by decide +kernel
theorem d_M_prove_115 : decode prog_11_method_43_code 115 = .ok (.aload_n 0, 1) := by decide +kernel
theorem d_M_prove_116 : decode prog_11_method_43_code 116 = .ok (.iload 4, 2) := by decide +kernel
theorem d_M_prove_118 : decode prog_11_method_43_code 118 = .ok (.iload 5, 2) := by decide +kernel
theorem d_M_prove_120 : decode prog_11_method_43_code 120 = .ok (.invokevirtual 185, 3) := by decide +kernel
theorem d_M_prove_123 : decode prog_11_method_43_code 123 = .ok (.istore 6, 2) := by decide +kernel
theorem d_M_prove_125 : decode prog_11_method_43_code 125 = .ok (.aload_n 0, 1) := by decide +kernel
theorem d_M_prove_126 : decode prog_11_method_43_code 126 = .ok (.iload 4, 2) := by decide +kernel
theorem d_M_prove_128 : decode prog_11_method_43_code 128 = .ok (.iload 6, 2) := by decide +kernel
theorem d_M_prove_130 : decode prog_11_method_43_code 130 = .ok (.aload_n 0, 1) := by decide +kernel
theorem d_M_prove_131 : decode prog_11_method_43_code 131 = .ok (.iload 4, 2) := by decide +kernel
theorem d_M_prove_133 : decode prog_11_method_43_code 133 = .ok (.iload 6, 2) := by decide +kernel
theorem d_M_prove_135 : decode prog_11_method_43_code 135 = .ok (.invokevirtual 92, 3) := by decide +kernel
theorem d_M_prove_138 : decode prog_11_method_43_code 138 = .ok (.invokevirtual 188, 3) := by decide +kernel
theorem d_M_prove_141 : decode prog_11_method_43_code 141 = .ok (.iinc 4 (-1), 3) := by decide +kernel
theorem d_M_prove_144 : decode prog_11_method_43_code 144 = .ok (.goto (-68), 3) := by decide +kernel
theorem d_M_prove_147 : decode prog_11_method_43_code 147 = .ok (.aload_n 0, 1) := by decide +kernel
theorem d_M_prove_148 : decode prog_11_method_43_code 148 = .ok (.getfield 165, 3) := by decide +kernel
theorem d_M_prove_151 : decode prog_11_method_43_code 151 = .ok (.ireturn, 1) := by decide +kernel
theorem d_M_way_0 : decode prog_11_method_35_code 0 = .ok (.aload_n 0, 1) := by decide +kernel
theorem d_M_way_1 : decode prog_11_method_35_code 1 = .ok (.iconst 0, 1) := by decide +kernel
theorem d_M_way_2 : decode prog_11_method_35_code 2 = .ok (.putfield 155, 3) := by decide +kernel
theorem d_M_way_5 : decode prog_11_method_35_code 5 = .ok (.iconst 0, 1) := by decide +kernel
theorem d_M_way_6 : decode prog_11_method_35_code 6 = .ok (.istore_n 3, 1) := by decide +kernel
theorem d_M_way_7 : decode prog_11_method_35_code 7 = .ok (.iload_n 1, 1) := by decide +kernel
theorem d_M_way_8 : decode prog_11_method_35_code 8 = .ok (.istore 4, 2) := by decide +kernel
theorem d_M_way_10 : decode prog_11_method_35_code 10 = .ok (.iload 4, 2) := by decide +kernel
theorem d_M_way_12 : decode prog_11_method_35_code 12 = .ok (.iconst 1, 1) := by decide +kernel
theorem d_M_way_13 : decode prog_11_method_35_code 13 = .ok (.if_icmp .le 62, 3) := by decide +kernel
theorem d_M_way_16 : decode prog_11_method_35_code 16 = .ok (.iload 4, 2) := by decide +kernel
theorem d_M_way_18 : decode prog_11_method_35_code 18 = .ok (.invokestatic 158, 3) := by decide +kernel
theorem d_M_way_21 : decode prog_11_method_35_code 21 = .ok (.istore 5, 2) := by decide +kernel
theorem d_M_way_23 : decode prog_11_method_35_code 23 = .ok (.iload_n 2, 1) := by decide +kernel
theorem d_M_way_24 : decode prog_11_method_35_code 24 = .ok (.iload_n 3, 1) := by decide +kernel
theorem d_M_way_25 : decode prog_11_method_35_code 25 = .ok (.iload 5, 2) := by decide +kernel
theorem d_M_way_27 : decode prog_11_method_35_code 27 = .ok (.iadd, 1) := by decide +kernel
theorem d_M_way_28 : decode prog_11_method_35_code 28 = .ok (.if_icmp .ge 24, 3) := by decide +kernel
theorem d_M_way_31 : decode prog_11_method_35_code 31 = .ok (.aload_n 0, 1) := by decide +kernel
theorem d_M_way_32 : decode prog_11_method_35_code 32 = .ok (.iload_n 3, 1) := by decide +kernel
theorem d_M_way_33 : decode prog_11_method_35_code 33 = .ok (.iload 5, 2) := by decide +kernel
theorem d_M_way_35 : decode prog_11_method_35_code 35 = .ok (.iadd, 1) := by decide +kernel
theorem d_M_way_36 : decode prog_11_method_35_code 36 = .ok (.iload 4, 2) := by decide +kernel
theorem d_M_way_38 : decode prog_11_method_35_code 38 = .ok (.iload 5, 2) := by decide +kernel
theorem d_M_way_40 : decode prog_11_method_35_code 40 = .ok (.isub, 1) := by decide +kernel
theorem d_M_way_41 : decode prog_11_method_35_code 41 = .ok (.iconst 0, 1) := by decide +kernel
theorem d_M_way_42 : decode prog_11_method_35_code 42 = .ok (.invokevirtual 161, 3) := by decide +kernel
theorem d_M_way_45 : decode prog_11_method_35_code 45 = .ok (.iload 5, 2) := by decide +kernel
theorem d_M_way_47 : decode prog_11_method_35_code 47 = .ok (.istore 4, 2) := by decide +kernel
theorem d_M_way_49 : decode prog_11_method_35_code 49 = .ok (.goto 23, 3) := by decide +kernel
theorem d_M_way_52 : decode prog_11_method_35_code 52 = .ok (.aload_n 0, 1) := by decide +kernel
theorem d_M_way_53 : decode prog_11_method_35_code 53 = .ok (.iload_n 3, 1) := by decide +kernel
theorem d_M_way_54 : decode prog_11_method_35_code 54 = .ok (.iload 5, 2) := by decide +kernel
theorem d_M_way_56 : decode prog_11_method_35_code 56 = .ok (.iconst 1, 1) := by decide +kernel
theorem d_M_way_57 : decode prog_11_method_35_code 57 = .ok (.invokevirtual 161, 3) := by decide +kernel
theorem d_M_way_60 : decode prog_11_method_35_code 60 = .ok (.iload_n 3, 1) := by decide +kernel
theorem d_M_way_61 : decode prog_11_method_35_code 61 = .ok (.iload 5, 2) := by decide +kernel
theorem d_M_way_63 : decode prog_11_method_35_code 63 = .ok (.iadd, 1) := by decide +kernel
theorem d_M_way_64 : decode prog_11_method_35_code 64 = .ok (.istore_n 3, 1) := by decide +kernel
theorem d_M_way_65 : decode prog_11_method_35_code 65 = .ok (.iload 4, 2) := by decide +kernel
theorem d_M_way_67 : decode prog_11_method_35_code 67 = .ok (.iload 5, 2) := by decide +kernel
theorem d_M_way_69 : decode prog_11_method_35_code 69 = .ok (.isub, 1) := by decide +kernel
theorem d_M_way_70 : decode prog_11_method_35_code 70 = .ok (.istore 4, 2) := by decide +kernel
theorem d_M_way_72 : decode prog_11_method_35_code 72 = .ok (.goto (-62), 3) := by decide +kernel
theorem d_M_way_75 : decode prog_11_method_35_code 75 = .ok (.return_, 1) := by decide +kernel
theorem d_M_half_0 : decode prog_11_method_33_code 0 = .ok (.iconst 1, 1) := by decide +kernel
theorem d_M_half_1 : decode prog_11_method_33_code 1 = .ok (.istore_n 1, 1) := by decide +kernel
theorem d_M_half_2 : decode prog_11_method_33_code 2 = .ok (.iconst 2, 1) := by decide +kernel
theorem d_M_half_3 : decode prog_11_method_33_code 3 = .ok (.iload_n 1, 1) := by decide +kernel
theorem d_M_half_4 : decode prog_11_method_33_code 4 = .ok (.imul, 1) := by decide +kernel
theorem d_M_half_5 : decode prog_11_method_33_code 5 = .ok (.iload_n 0, 1) := by decide +kernel
theorem d_M_half_6 : decode prog_11_method_33_code 6 = .ok (.if_icmp .ge 10, 3) := by decide +kernel
theorem d_M_half_9 : decode prog_11_method_33_code 9 = .ok (.iconst 2, 1) := by decide +kernel
theorem d_M_half_10 : decode prog_11_method_33_code 10 = .ok (.iload_n 1, 1) := by decide +kernel
theorem d_M_half_11 : decode prog_11_method_33_code 11 = .ok (.imul, 1) := by decide +kernel
theorem d_M_half_12 : decode prog_11_method_33_code 12 = .ok (.istore_n 1, 1) := by decide +kernel
theorem d_M_half_13 : decode prog_11_method_33_code 13 = .ok (.goto (-11), 3) := by decide +kernel
theorem d_M_half_16 : decode prog_11_method_33_code 16 = .ok (.iload_n 1, 1) := by decide +kernel
theorem d_M_half_17 : decode prog_11_method_33_code 17 = .ok (.ireturn, 1) := by decide +kernel
theorem d_M_side_0 : decode prog_11_method_34_code 0 = .ok (.aload_n 0, 1) := by decide +kernel
theorem d_M_side_1 : decode prog_11_method_34_code 1 = .ok (.getfield 45, 3) := by decide +kernel
theorem d_M_side_4 : decode prog_11_method_34_code 4 = .ok (.aload_n 0, 1) := by decide +kernel
theorem d_M_side_5 : decode prog_11_method_34_code 5 = .ok (.getfield 155, 3) := by decide +kernel
theorem d_M_side_8 : decode prog_11_method_34_code 8 = .ok (.iload_n 1, 1) := by decide +kernel
theorem d_M_side_9 : decode prog_11_method_34_code 9 = .ok (.iastore, 1) := by decide +kernel
theorem d_M_side_10 : decode prog_11_method_34_code 10 = .ok (.aload_n 0, 1) := by decide +kernel
theorem d_M_side_11 : decode prog_11_method_34_code 11 = .ok (.getfield 48, 3) := by decide +kernel
theorem d_M_side_14 : decode prog_11_method_34_code 14 = .ok (.aload_n 0, 1) := by decide +kernel
theorem d_M_side_15 : decode prog_11_method_34_code 15 = .ok (.getfield 155, 3) := by decide +kernel
theorem d_M_side_18 : decode prog_11_method_34_code 18 = .ok (.iload_n 2, 1) := by decide +kernel
theorem d_M_side_19 : decode prog_11_method_34_code 19 = .ok (.iastore, 1) := by decide +kernel
theorem d_M_side_20 : decode prog_11_method_34_code 20 = .ok (.aload_n 0, 1) := by decide +kernel
theorem d_M_side_21 : decode prog_11_method_34_code 21 = .ok (.getfield 51, 3) := by decide +kernel
theorem d_M_side_24 : decode prog_11_method_34_code 24 = .ok (.aload_n 0, 1) := by decide +kernel
theorem d_M_side_25 : decode prog_11_method_34_code 25 = .ok (.getfield 155, 3) := by decide +kernel
theorem d_M_side_28 : decode prog_11_method_34_code 28 = .ok (.iload_n 3, 1) := by decide +kernel
theorem d_M_side_29 : decode prog_11_method_34_code 29 = .ok (.bastore, 1) := by decide +kernel
theorem d_M_side_30 : decode prog_11_method_34_code 30 = .ok (.aload_n 0, 1) := by decide +kernel
theorem d_M_side_31 : decode prog_11_method_34_code 31 = .ok (.dup, 1) := by decide +kernel
theorem d_M_side_32 : decode prog_11_method_34_code 32 = .ok (.getfield 155, 3) := by decide +kernel
theorem d_M_side_35 : decode prog_11_method_34_code 35 = .ok (.iconst 1, 1) := by decide +kernel
theorem d_M_side_36 : decode prog_11_method_34_code 36 = .ok (.iadd, 1) := by decide +kernel
theorem d_M_side_37 : decode prog_11_method_34_code 37 = .ok (.putfield 155, 3) := by decide +kernel
theorem d_M_side_40 : decode prog_11_method_34_code 40 = .ok (.return_, 1) := by decide +kernel
theorem d_M_outBeside_0 : decode prog_11_method_39_code 0 = .ok (.aload_n 0, 1) := by decide +kernel
theorem d_M_outBeside_1 : decode prog_11_method_39_code 1 = .ok (.iconst 0, 1) := by decide +kernel
theorem d_M_outBeside_2 : decode prog_11_method_39_code 2 = .ok (.putfield 165, 3) := by decide +kernel
theorem d_M_outBeside_5 : decode prog_11_method_39_code 5 = .ok (.aload_n 0, 1) := by decide +kernel
theorem d_M_outBeside_6 : decode prog_11_method_39_code 6 = .ok (.aload_n 0, 1) := by decide +kernel
theorem d_M_outBeside_7 : decode prog_11_method_39_code 7 = .ok (.getfield 155, 3) := by decide +kernel
theorem d_M_outBeside_10 : decode prog_11_method_39_code 10 = .ok (.invokevirtual 168, 3) := by decide +kernel
theorem d_M_outBeside_13 : decode prog_11_method_39_code 13 = .ok (.aload_n 0, 1) := by decide +kernel
theorem d_M_outBeside_14 : decode prog_11_method_39_code 14 = .ok (.getfield 155, 3) := by decide +kernel
theorem d_M_outBeside_17 : decode prog_11_method_39_code 17 = .ok (.iconst 1, 1) := by decide +kernel
theorem d_M_outBeside_18 : decode prog_11_method_39_code 18 = .ok (.isub, 1) := by decide +kernel
theorem d_M_outBeside_19 : decode prog_11_method_39_code 19 = .ok (.istore_n 1, 1) := by decide +kernel
theorem d_M_outBeside_20 : decode prog_11_method_39_code 20 = .ok (.iload_n 1, 1) := by decide +kernel
theorem d_M_outBeside_21 : decode prog_11_method_39_code 21 = .ok (.ifCond .lt 29, 3) := by decide +kernel
theorem d_M_outBeside_24 : decode prog_11_method_39_code 24 = .ok (.aload_n 0, 1) := by decide +kernel
theorem d_M_outBeside_25 : decode prog_11_method_39_code 25 = .ok (.aload_n 0, 1) := by decide +kernel
theorem d_M_outBeside_26 : decode prog_11_method_39_code 26 = .ok (.aload_n 0, 1) := by decide +kernel
theorem d_M_outBeside_27 : decode prog_11_method_39_code 27 = .ok (.getfield 45, 3) := by decide +kernel
theorem d_M_outBeside_30 : decode prog_11_method_39_code 30 = .ok (.iload_n 1, 1) := by decide +kernel
theorem d_M_outBeside_31 : decode prog_11_method_39_code 31 = .ok (.iaload, 1) := by decide +kernel
theorem d_M_outBeside_32 : decode prog_11_method_39_code 32 = .ok (.aload_n 0, 1) := by decide +kernel
theorem d_M_outBeside_33 : decode prog_11_method_39_code 33 = .ok (.getfield 48, 3) := by decide +kernel
theorem d_M_outBeside_36 : decode prog_11_method_39_code 36 = .ok (.iload_n 1, 1) := by decide +kernel
theorem d_M_outBeside_37 : decode prog_11_method_39_code 37 = .ok (.iaload, 1) := by decide +kernel
theorem d_M_outBeside_38 : decode prog_11_method_39_code 38 = .ok (.invokevirtual 152, 3) := by decide +kernel
theorem d_M_outBeside_41 : decode prog_11_method_39_code 41 = .ok (.invokevirtual 172, 3) := by decide +kernel
theorem d_M_outBeside_44 : decode prog_11_method_39_code 44 = .ok (.iinc 1 (-1), 3) := by decide +kernel
theorem d_M_outBeside_47 : decode prog_11_method_39_code 47 = .ok (.goto (-27), 3) := by decide +kernel
theorem d_M_outBeside_50 : decode prog_11_method_39_code 50 = .ok (.return_, 1) := by decide +kernel
theorem d_M_out_0 : decode prog_11_method_37_code 0 = .ok (.aload_n 0, 1) := by decide +kernel
theorem d_M_out_1 : decode prog_11_method_37_code 1 = .ok (.getfield 54, 3) := by decide +kernel
theorem d_M_out_4 : decode prog_11_method_37_code 4 = .ok (.aload_n 0, 1) := by decide +kernel
theorem d_M_out_5 : decode prog_11_method_37_code 5 = .ok (.getfield 165, 3) := by decide +kernel
theorem d_M_out_8 : decode prog_11_method_37_code 8 = .ok (.iload_n 1, 1) := by decide +kernel
theorem d_M_out_9 : decode prog_11_method_37_code 9 = .ok (.sipush 255, 3) := by decide +kernel
theorem d_M_out_12 : decode prog_11_method_37_code 12 = .ok (.iand, 1) := by decide +kernel
theorem d_M_out_13 : decode prog_11_method_37_code 13 = .ok (.iastore, 1) := by decide +kernel
theorem d_M_out_14 : decode prog_11_method_37_code 14 = .ok (.aload_n 0, 1) := by decide +kernel
theorem d_M_out_15 : decode prog_11_method_37_code 15 = .ok (.dup, 1) := by decide +kernel
theorem d_M_out_16 : decode prog_11_method_37_code 16 = .ok (.getfield 165, 3) := by decide +kernel
theorem d_M_out_19 : decode prog_11_method_37_code 19 = .ok (.iconst 1, 1) := by decide +kernel
theorem d_M_out_20 : decode prog_11_method_37_code 20 = .ok (.iadd, 1) := by decide +kernel
theorem d_M_out_21 : decode prog_11_method_37_code 21 = .ok (.putfield 165, 3) := by decide +kernel
theorem d_M_out_24 : decode prog_11_method_37_code 24 = .ok (.return_, 1) := by decide +kernel
theorem d_M_outInt_0 : decode prog_11_method_38_code 0 = .ok (.iconst 3, 1) := by decide +kernel
theorem d_M_outInt_1 : decode prog_11_method_38_code 1 = .ok (.istore_n 2, 1) := by decide +kernel
theorem d_M_outInt_2 : decode prog_11_method_38_code 2 = .ok (.iload_n 2, 1) := by decide +kernel
theorem d_M_outInt_3 : decode prog_11_method_38_code 3 = .ok (.ifCond .lt 19, 3) := by decide +kernel
theorem d_M_outInt_6 : decode prog_11_method_38_code 6 = .ok (.aload_n 0, 1) := by decide +kernel
theorem d_M_outInt_7 : decode prog_11_method_38_code 7 = .ok (.iload_n 1, 1) := by decide +kernel
theorem d_M_outInt_8 : decode prog_11_method_38_code 8 = .ok (.bipush 8, 2) := by decide +kernel
theorem d_M_outInt_10 : decode prog_11_method_38_code 10 = .ok (.iload_n 2, 1) := by decide +kernel
theorem d_M_outInt_11 : decode prog_11_method_38_code 11 = .ok (.imul, 1) := by decide +kernel
theorem d_M_outInt_12 : decode prog_11_method_38_code 12 = .ok (.ishr, 1) := by decide +kernel
theorem d_M_outInt_13 : decode prog_11_method_38_code 13 = .ok (.invokevirtual 168, 3) := by decide +kernel
theorem d_M_outInt_16 : decode prog_11_method_38_code 16 = .ok (.iinc 2 (-1), 3) := by decide +kernel
theorem d_M_outInt_19 : decode prog_11_method_38_code 19 = .ok (.goto (-17), 3) := by decide +kernel
theorem d_M_outInt_22 : decode prog_11_method_38_code 22 = .ok (.return_, 1) := by decide +kernel
theorem d_M_choose_0 : decode prog_11_method_40_code 0 = .ok (.iload_n 1, 1) := by decide +kernel
theorem d_M_choose_1 : decode prog_11_method_40_code 1 = .ok (.istore 4, 2) := by decide +kernel
theorem d_M_choose_3 : decode prog_11_method_40_code 3 = .ok (.iload 4, 2) := by decide +kernel
theorem d_M_choose_5 : decode prog_11_method_40_code 5 = .ok (.iload_n 2, 1) := by decide +kernel
theorem d_M_choose_6 : decode prog_11_method_40_code 6 = .ok (.iconst 1, 1) := by decide +kernel
theorem d_M_choose_7 : decode prog_11_method_40_code 7 = .ok (.isub, 1) := by decide +kernel
theorem d_M_choose_8 : decode prog_11_method_40_code 8 = .ok (.if_icmp .ge 17, 3) := by decide +kernel
theorem d_M_choose_11 : decode prog_11_method_40_code 11 = .ok (.aload_n 0, 1) := by decide +kernel
theorem d_M_choose_12 : decode prog_11_method_40_code 12 = .ok (.iload 4, 2) := by decide +kernel
theorem d_M_choose_14 : decode prog_11_method_40_code 14 = .ok (.iaload, 1) := by decide +kernel
theorem d_M_choose_15 : decode prog_11_method_40_code 15 = .ok (.iload_n 3, 1) := by decide +kernel
theorem d_M_choose_16 : decode prog_11_method_40_code 16 = .ok (.if_icmp .ge 9, 3) := by decide +kernel
theorem d_M_choose_19 : decode prog_11_method_40_code 19 = .ok (.iinc 4 1, 3) := by decide +kernel
theorem d_M_choose_22 : decode prog_11_method_40_code 22 = .ok (.goto (-19), 3) := by decide +kernel
theorem d_M_choose_25 : decode prog_11_method_40_code 25 = .ok (.iload 4, 2) := by decide +kernel
theorem d_M_choose_27 : decode prog_11_method_40_code 27 = .ok (.ireturn, 1) := by decide +kernel
theorem d_M_chunkOf_0 : decode prog_11_method_41_code 0 = .ok (.iload_n 2, 1) := by decide +kernel
theorem d_M_chunkOf_1 : decode prog_11_method_41_code 1 = .ok (.istore_n 3, 1) := by decide +kernel
theorem d_M_chunkOf_2 : decode prog_11_method_41_code 2 = .ok (.iload_n 3, 1) := by decide +kernel
theorem d_M_chunkOf_3 : decode prog_11_method_41_code 3 = .ok (.ifCond .le 29, 3) := by decide +kernel
theorem d_M_chunkOf_6 : decode prog_11_method_41_code 6 = .ok (.iload_n 1, 1) := by decide +kernel
theorem d_M_chunkOf_7 : decode prog_11_method_41_code 7 = .ok (.aload_n 0, 1) := by decide +kernel
theorem d_M_chunkOf_8 : decode prog_11_method_41_code 8 = .ok (.getfield 33, 3) := by decide +kernel
theorem d_M_chunkOf_11 : decode prog_11_method_41_code 11 = .ok (.bipush 48, 2) := by decide +kernel
theorem d_M_chunkOf_13 : decode prog_11_method_41_code 13 = .ok (.iload_n 1, 1) := by decide +kernel
theorem d_M_chunkOf_14 : decode prog_11_method_41_code 14 = .ok (.imul, 1) := by decide +kernel
theorem d_M_chunkOf_15 : decode prog_11_method_41_code 15 = .ok (.iload_n 3, 1) := by decide +kernel
theorem d_M_chunkOf_16 : decode prog_11_method_41_code 16 = .ok (.iadd, 1) := by decide +kernel
theorem d_M_chunkOf_17 : decode prog_11_method_41_code 17 = .ok (.iconst 1, 1) := by decide +kernel
theorem d_M_chunkOf_18 : decode prog_11_method_41_code 18 = .ok (.isub, 1) := by decide +kernel
theorem d_M_chunkOf_19 : decode prog_11_method_41_code 19 = .ok (.iaload, 1) := by decide +kernel
theorem d_M_chunkOf_20 : decode prog_11_method_41_code 20 = .ok (.invokestatic 81, 3) := by decide +kernel
theorem d_M_chunkOf_23 : decode prog_11_method_41_code 23 = .ok (.ifCond .ne 9, 3) := by decide +kernel
theorem d_M_chunkOf_26 : decode prog_11_method_41_code 26 = .ok (.iinc 3 (-1), 3) := by decide +kernel
theorem d_M_chunkOf_29 : decode prog_11_method_41_code 29 = .ok (.goto (-27), 3) := by decide +kernel
theorem d_M_chunkOf_32 : decode prog_11_method_41_code 32 = .ok (.iload_n 3, 1) := by decide +kernel
theorem d_M_chunkOf_33 : decode prog_11_method_41_code 33 = .ok (.ireturn, 1) := by decide +kernel
theorem d_M_outChunk_0 : decode prog_11_method_42_code 0 = .ok (.aload_n 0, 1) := by decide +kernel
theorem d_M_outChunk_1 : decode prog_11_method_42_code 1 = .ok (.iload_n 3, 1) := by decide +kernel
theorem d_M_outChunk_2 : decode prog_11_method_42_code 2 = .ok (.iload_n 2, 1) := by decide +kernel
theorem d_M_outChunk_3 : decode prog_11_method_42_code 3 = .ok (.isub, 1) := by decide +kernel
theorem d_M_outChunk_4 : decode prog_11_method_42_code 4 = .ok (.invokevirtual 168, 3) := by decide +kernel
theorem d_M_outChunk_7 : decode prog_11_method_42_code 7 = .ok (.bipush 48, 2) := by decide +kernel
theorem d_M_outChunk_9 : decode prog_11_method_42_code 9 = .ok (.iload_n 1, 1) := by decide +kernel
theorem d_M_outChunk_10 : decode prog_11_method_42_code 10 = .ok (.imul, 1) := by decide +kernel
theorem d_M_outChunk_11 : decode prog_11_method_42_code 11 = .ok (.iload_n 2, 1) := by decide +kernel
theorem d_M_outChunk_12 : decode prog_11_method_42_code 12 = .ok (.iadd, 1) := by decide +kernel
theorem d_M_outChunk_13 : decode prog_11_method_42_code 13 = .ok (.istore 4, 2) := by decide +kernel
theorem d_M_outChunk_15 : decode prog_11_method_42_code 15 = .ok (.iload 4, 2) := by decide +kernel
theorem d_M_outChunk_17 : decode prog_11_method_42_code 17 = .ok (.bipush 48, 2) := by decide +kernel
theorem d_M_outChunk_19 : decode prog_11_method_42_code 19 = .ok (.iload_n 1, 1) := by decide +kernel
theorem d_M_outChunk_20 : decode prog_11_method_42_code 20 = .ok (.imul, 1) := by decide +kernel
theorem d_M_outChunk_21 : decode prog_11_method_42_code 21 = .ok (.iload_n 3, 1) := by decide +kernel
theorem d_M_outChunk_22 : decode prog_11_method_42_code 22 = .ok (.iadd, 1) := by decide +kernel
theorem d_M_outChunk_23 : decode prog_11_method_42_code 23 = .ok (.if_icmp .ge 31, 3) := by decide +kernel
theorem d_M_outChunk_26 : decode prog_11_method_42_code 26 = .ok (.aload_n 0, 1) := by decide +kernel
theorem d_M_outChunk_27 : decode prog_11_method_42_code 27 = .ok (.aload_n 0, 1) := by decide +kernel
theorem d_M_outChunk_28 : decode prog_11_method_42_code 28 = .ok (.getfield 33, 3) := by decide +kernel
theorem d_M_outChunk_31 : decode prog_11_method_42_code 31 = .ok (.iload 4, 2) := by decide +kernel
theorem d_M_outChunk_33 : decode prog_11_method_42_code 33 = .ok (.iaload, 1) := by decide +kernel
theorem d_M_outChunk_34 : decode prog_11_method_42_code 34 = .ok (.invokevirtual 168, 3) := by decide +kernel
theorem d_M_outChunk_37 : decode prog_11_method_42_code 37 = .ok (.aload_n 0, 1) := by decide +kernel
theorem d_M_outChunk_38 : decode prog_11_method_42_code 38 = .ok (.aload_n 0, 1) := by decide +kernel
theorem d_M_outChunk_39 : decode prog_11_method_42_code 39 = .ok (.getfield 36, 3) := by decide +kernel
theorem d_M_outChunk_42 : decode prog_11_method_42_code 42 = .ok (.iload 4, 2) := by decide +kernel
theorem d_M_outChunk_44 : decode prog_11_method_42_code 44 = .ok (.iaload, 1) := by decide +kernel
theorem d_M_outChunk_45 : decode prog_11_method_42_code 45 = .ok (.invokevirtual 172, 3) := by decide +kernel
theorem d_M_outChunk_48 : decode prog_11_method_42_code 48 = .ok (.iinc 4 1, 3) := by decide +kernel
theorem d_M_outChunk_51 : decode prog_11_method_42_code 51 = .ok (.goto (-36), 3) := by decide +kernel
theorem d_M_outChunk_54 : decode prog_11_method_42_code 54 = .ok (.return_, 1) := by decide +kernel
