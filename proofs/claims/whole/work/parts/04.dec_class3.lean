theorem d_K_verify_30 : decode prog_1_method_18_code 30 = .ok (.invokestatic 51, 3) := by decide +kernel
theorem d_K_verify_33 : decode prog_1_method_18_code 33 = .ok (.aload_n 0, 1) := by decide +kernel
theorem d_K_verify_34 : decode prog_1_method_18_code 34 = .ok (.getfield 47, 3) := by decide +kernel
theorem d_K_verify_37 : decode prog_1_method_18_code 37 = .ok (.iload_n 1, 1) := by decide +kernel
theorem d_K_verify_38 : decode prog_1_method_18_code 38 = .ok (.iload_n 2, 1) := by decide +kernel
theorem d_K_verify_39 : decode prog_1_method_18_code 39 = .ok (.iload_n 3, 1) := by decide +kernel
theorem d_K_verify_40 : decode prog_1_method_18_code 40 = .ok (.iload 4, 2) := by decide +kernel
theorem d_K_verify_42 : decode prog_1_method_18_code 42 = .ok (.invokevirtual 179, 3) := by decide +kernel
theorem d_K_verify_45 : decode prog_1_method_18_code 45 = .ok (.istore 5, 2) := by decide +kernel
theorem d_K_verify_47 : decode prog_1_method_18_code 47 = .ok (.aload_n 0, 1) := by decide +kernel
theorem d_K_verify_48 : decode prog_1_method_18_code 48 = .ok (.getfield 47, 3) := by decide +kernel
theorem d_K_verify_51 : decode prog_1_method_18_code 51 = .ok (.getfield 168, 3) := by decide +kernel
theorem d_K_verify_54 : decode prog_1_method_18_code 54 = .ok (.invokevirtual 183, 3) := by decide +kernel
theorem d_K_verify_57 : decode prog_1_method_18_code 57 = .ok (.iload 5, 2) := by decide +kernel
theorem d_K_verify_59 : decode prog_1_method_18_code 59 = .ok (.ifCond .ne 5, 3) := by decide +kernel
theorem d_K_verify_62 : decode prog_1_method_18_code 62 = .ok (.iconst 0, 1) := by decide +kernel
theorem d_K_verify_63 : decode prog_1_method_18_code 63 = .ok (.ireturn, 1) := by decide +kernel
theorem d_K_verify_64 : decode prog_1_method_18_code 64 = .ok (.aload_n 0, 1) := by decide +kernel
theorem d_K_verify_65 : decode prog_1_method_18_code 65 = .ok (.getfield 47, 3) := by decide +kernel
theorem d_K_verify_68 : decode prog_1_method_18_code 68 = .ok (.iload 4, 2) := by decide +kernel
theorem d_K_verify_70 : decode prog_1_method_18_code 70 = .ok (.invokevirtual 186, 3) := by decide +kernel
theorem d_K_verify_73 : decode prog_1_method_18_code 73 = .ok (.ifCond .eq 7, 3) := by decide +kernel
theorem d_K_verify_76 : decode prog_1_method_18_code 76 = .ok (.iconst 2, 1) := by decide +kernel
theorem d_K_verify_77 : decode prog_1_method_18_code 77 = .ok (.goto 4, 3) := by decide +kernel
theorem d_K_verify_80 : decode prog_1_method_18_code 80 = .ok (.iconst 1, 1) := by decide +kernel
theorem d_K_verify_81 : decode prog_1_method_18_code 81 = .ok (.ireturn, 1) := by decide +kernel
theorem d_V_takesProof_0 : decode prog_9_method_2_code 0 = .ok (.aload_n 0, 1) := by decide +kernel
theorem d_V_takesProof_1 : decode prog_9_method_2_code 1 = .ok (.iconst 0, 1) := by decide +kernel
theorem d_V_takesProof_2 : decode prog_9_method_2_code 2 = .ok (.putfield 22, 3) := by decide +kernel
theorem d_V_takesProof_5 : decode prog_9_method_2_code 5 = .ok (.iconst 1, 1) := by decide +kernel
theorem d_V_takesProof_6 : decode prog_9_method_2_code 6 = .ok (.iconst 4, 1) := by decide +kernel
theorem d_V_takesProof_7 : decode prog_9_method_2_code 7 = .ok (.aload_n 0, 1) := by decide +kernel
theorem d_V_takesProof_8 : decode prog_9_method_2_code 8 = .ok (.invokevirtual 49, 3) := by decide +kernel
theorem d_V_takesProof_11 : decode prog_9_method_2_code 11 = .ok (.imul, 1) := by decide +kernel
theorem d_V_takesProof_12 : decode prog_9_method_2_code 12 = .ok (.iadd, 1) := by decide +kernel
theorem d_V_takesProof_13 : decode prog_9_method_2_code 13 = .ok (.istore 5, 2) := by decide +kernel
theorem d_V_takesProof_15 : decode prog_9_method_2_code 15 = .ok (.aload_n 0, 1) := by decide +kernel
theorem d_V_takesProof_16 : decode prog_9_method_2_code 16 = .ok (.iload 5, 2) := by decide +kernel
theorem d_V_takesProof_18 : decode prog_9_method_2_code 18 = .ok (.putfield 22, 3) := by decide +kernel
theorem d_V_takesProof_21 : decode prog_9_method_2_code 21 = .ok (.aload_n 0, 1) := by decide +kernel
theorem d_V_takesProof_22 : decode prog_9_method_2_code 22 = .ok (.iload 4, 2) := by decide +kernel
theorem d_V_takesProof_24 : decode prog_9_method_2_code 24 = .ok (.invokevirtual 53, 3) := by decide +kernel
theorem d_V_takesProof_27 : decode prog_9_method_2_code 27 = .ok (.ifCond .eq 17, 3) := by decide +kernel
theorem d_V_takesProof_30 : decode prog_9_method_2_code 30 = .ok (.aload_n 0, 1) := by decide +kernel
theorem d_V_takesProof_31 : decode prog_9_method_2_code 31 = .ok (.getfield 22, 3) := by decide +kernel
theorem d_V_takesProof_34 : decode prog_9_method_2_code 34 = .ok (.aload_n 0, 1) := by decide +kernel
theorem d_V_takesProof_35 : decode prog_9_method_2_code 35 = .ok (.getfield 12, 3) := by decide +kernel
theorem d_V_takesProof_38 : decode prog_9_method_2_code 38 = .ok (.getfield 57, 3) := by decide +kernel
theorem d_V_takesProof_41 : decode prog_9_method_2_code 41 = .ok (.if_icmp .eq 5, 3) := by decide +kernel
theorem d_V_takesProof_44 : decode prog_9_method_2_code 44 = .ok (.iconst 0, 1) := by decide +kernel
theorem d_V_takesProof_45 : decode prog_9_method_2_code 45 = .ok (.ireturn, 1) := by decide +kernel
theorem d_V_takesProof_46 : decode prog_9_method_2_code 46 = .ok (.aload_n 0, 1) := by decide +kernel
theorem d_V_takesProof_47 : decode prog_9_method_2_code 47 = .ok (.iconst 1, 1) := by decide +kernel
theorem d_V_takesProof_48 : decode prog_9_method_2_code 48 = .ok (.putfield 22, 3) := by decide +kernel
theorem d_V_takesProof_51 : decode prog_9_method_2_code 51 = .ok (.aload_n 0, 1) := by decide +kernel
theorem d_V_takesProof_52 : decode prog_9_method_2_code 52 = .ok (.iload_n 3, 1) := by decide +kernel
theorem d_V_takesProof_53 : decode prog_9_method_2_code 53 = .ok (.aload_n 0, 1) := by decide +kernel
theorem d_V_takesProof_54 : decode prog_9_method_2_code 54 = .ok (.getfield 28, 3) := by decide +kernel
theorem d_V_takesProof_57 : decode prog_9_method_2_code 57 = .ok (.invokestatic 60, 3) := by decide +kernel
theorem d_V_takesProof_60 : decode prog_9_method_2_code 60 = .ok (.iload_n 3, 1) := by decide +kernel
theorem d_V_takesProof_61 : decode prog_9_method_2_code 61 = .ok (.iload_n 2, 1) := by decide +kernel
theorem d_V_takesProof_62 : decode prog_9_method_2_code 62 = .ok (.invokevirtual 64, 3) := by decide +kernel
theorem d_V_takesProof_65 : decode prog_9_method_2_code 65 = .ok (.istore 6, 2) := by decide +kernel
theorem d_V_takesProof_67 : decode prog_9_method_2_code 67 = .ok (.aload_n 0, 1) := by decide +kernel
theorem d_V_takesProof_68 : decode prog_9_method_2_code 68 = .ok (.getfield 22, 3) := by decide +kernel
theorem d_V_takesProof_71 : decode prog_9_method_2_code 71 = .ok (.iload 5, 2) := by decide +kernel
theorem d_V_takesProof_73 : decode prog_9_method_2_code 73 = .ok (.if_icmp .ne 13, 3) := by decide +kernel
theorem d_V_takesProof_76 : decode prog_9_method_2_code 76 = .ok (.iload 6, 2) := by decide +kernel
theorem d_V_takesProof_78 : decode prog_9_method_2_code 78 = .ok (.iload_n 1, 1) := by decide +kernel
theorem d_V_takesProof_79 : decode prog_9_method_2_code 79 = .ok (.if_icmp .ne 7, 3) := by decide +kernel
theorem d_V_takesProof_82 : decode prog_9_method_2_code 82 = .ok (.iconst 1, 1) := by decide +kernel
theorem d_V_takesProof_83 : decode prog_9_method_2_code 83 = .ok (.goto 4, 3) := by decide +kernel
theorem d_V_takesProof_86 : decode prog_9_method_2_code 86 = .ok (.iconst 0, 1) := by decide +kernel
theorem d_V_takesProof_87 : decode prog_9_method_2_code 87 = .ok (.ireturn, 1) := by decide +kernel
theorem d_V_nextByte_0 : decode prog_9_method_5_code 0 = .ok (.aload_n 0, 1) := by decide +kernel
theorem d_V_nextByte_1 : decode prog_9_method_5_code 1 = .ok (.getfield 12, 3) := by decide +kernel
theorem d_V_nextByte_4 : decode prog_9_method_5_code 4 = .ok (.aload_n 0, 1) := by decide +kernel
theorem d_V_nextByte_5 : decode prog_9_method_5_code 5 = .ok (.getfield 22, 3) := by decide +kernel
theorem d_V_nextByte_8 : decode prog_9_method_5_code 8 = .ok (.invokevirtual 72, 3) := by decide +kernel
theorem d_V_nextByte_11 : decode prog_9_method_5_code 11 = .ok (.istore_n 1, 1) := by decide +kernel
theorem d_V_nextByte_12 : decode prog_9_method_5_code 12 = .ok (.aload_n 0, 1) := by decide +kernel
theorem d_V_nextByte_13 : decode prog_9_method_5_code 13 = .ok (.dup, 1) := by decide +kernel
theorem d_V_nextByte_14 : decode prog_9_method_5_code 14 = .ok (.getfield 22, 3) := by decide +kernel
theorem d_V_nextByte_17 : decode prog_9_method_5_code 17 = .ok (.iconst 1, 1) := by decide +kernel
theorem d_V_nextByte_18 : decode prog_9_method_5_code 18 = .ok (.iadd, 1) := by decide +kernel
theorem d_V_nextByte_19 : decode prog_9_method_5_code 19 = .ok (.putfield 22, 3) := by decide +kernel
theorem d_V_nextByte_22 : decode prog_9_method_5_code 22 = .ok (.iload_n 1, 1) := by decide +kernel
theorem d_V_nextByte_23 : decode prog_9_method_5_code 23 = .ok (.iconst (-1), 1) := by decide +kernel
theorem d_V_nextByte_24 : decode prog_9_method_5_code 24 = .ok (.if_icmp .ne 7, 3) := by decide +kernel
theorem d_V_nextByte_27 : decode prog_9_method_5_code 27 = .ok (.iconst 0, 1) := by decide +kernel
theorem d_V_nextByte_28 : decode prog_9_method_5_code 28 = .ok (.goto 4, 3) := by decide +kernel
theorem d_V_nextByte_31 : decode prog_9_method_5_code 31 = .ok (.iload_n 1, 1) := by decide +kernel
theorem d_V_nextByte_32 : decode prog_9_method_5_code 32 = .ok (.ireturn, 1) := by decide +kernel
theorem d_V_readTree_0 : decode prog_9_method_7_code 0 = .ok (.aload_n 0, 1) := by decide +kernel
theorem d_V_readTree_1 : decode prog_9_method_7_code 1 = .ok (.aload_n 0, 1) := by decide +kernel
theorem d_V_readTree_2 : decode prog_9_method_7_code 2 = .ok (.invokevirtual 49, 3) := by decide +kernel
theorem d_V_readTree_5 : decode prog_9_method_7_code 5 = .ok (.putfield 25, 3) := by decide +kernel
theorem d_V_readTree_8 : decode prog_9_method_7_code 8 = .ok (.aload_n 0, 1) := by decide +kernel
theorem d_V_readTree_9 : decode prog_9_method_7_code 9 = .ok (.iconst 0, 1) := by decide +kernel
theorem d_V_readTree_10 : decode prog_9_method_7_code 10 = .ok (.putfield 28, 3) := by decide +kernel
theorem d_V_readTree_13 : decode prog_9_method_7_code 13 = .ok (.aload_n 0, 1) := by decide +kernel
theorem d_V_readTree_14 : decode prog_9_method_7_code 14 = .ok (.getfield 25, 3) := by decide +kernel
theorem d_V_readTree_17 : decode prog_9_method_7_code 17 = .ok (.bipush 6, 2) := by decide +kernel
theorem d_V_readTree_19 : decode prog_9_method_7_code 19 = .ok (.if_icmp .le 5, 3) := by decide +kernel
theorem d_V_readTree_22 : decode prog_9_method_7_code 22 = .ok (.iconst 0, 1) := by decide +kernel
theorem d_V_readTree_23 : decode prog_9_method_7_code 23 = .ok (.ireturn, 1) := by decide +kernel
theorem d_V_readTree_24 : decode prog_9_method_7_code 24 = .ok (.aload_n 0, 1) := by decide +kernel
theorem d_V_readTree_25 : decode prog_9_method_7_code 25 = .ok (.getfield 25, 3) := by decide +kernel
theorem d_V_readTree_28 : decode prog_9_method_7_code 28 = .ok (.iconst 1, 1) := by decide +kernel
theorem d_V_readTree_29 : decode prog_9_method_7_code 29 = .ok (.isub, 1) := by decide +kernel
theorem d_V_readTree_30 : decode prog_9_method_7_code 30 = .ok (.istore_n 2, 1) := by decide +kernel
theorem d_V_readTree_31 : decode prog_9_method_7_code 31 = .ok (.iload_n 2, 1) := by decide +kernel
theorem d_V_readTree_32 : decode prog_9_method_7_code 32 = .ok (.ifCond .lt 71, 3) := by decide +kernel
theorem d_V_readTree_35 : decode prog_9_method_7_code 35 = .ok (.aload_n 0, 1) := by decide +kernel
theorem d_V_readTree_36 : decode prog_9_method_7_code 36 = .ok (.getfield 37, 3) := by decide +kernel
theorem d_V_readTree_39 : decode prog_9_method_7_code 39 = .ok (.istore_n 3, 1) := by decide +kernel
theorem d_V_readTree_40 : decode prog_9_method_7_code 40 = .ok (.aload_n 0, 1) := by decide +kernel
theorem d_V_readTree_41 : decode prog_9_method_7_code 41 = .ok (.getfield 40, 3) := by decide +kernel
theorem d_V_readTree_44 : decode prog_9_method_7_code 44 = .ok (.istore 4, 2) := by decide +kernel
theorem d_V_readTree_46 : decode prog_9_method_7_code 46 = .ok (.aload_n 0, 1) := by decide +kernel
theorem d_V_readTree_47 : decode prog_9_method_7_code 47 = .ok (.iload_n 2, 1) := by decide +kernel
theorem d_V_readTree_48 : decode prog_9_method_7_code 48 = .ok (.iload_n 1, 1) := by decide +kernel
theorem d_V_readTree_49 : decode prog_9_method_7_code 49 = .ok (.invokevirtual 76, 3) := by decide +kernel
theorem d_V_readTree_52 : decode prog_9_method_7_code 52 = .ok (.ifCond .ne 5, 3) := by decide +kernel
theorem d_V_readTree_55 : decode prog_9_method_7_code 55 = .ok (.iconst 0, 1) := by decide +kernel
theorem d_V_readTree_56 : decode prog_9_method_7_code 56 = .ok (.ireturn, 1) := by decide +kernel
theorem d_V_readTree_57 : decode prog_9_method_7_code 57 = .ok (.iload_n 2, 1) := by decide +kernel
theorem d_V_readTree_58 : decode prog_9_method_7_code 58 = .ok (.aload_n 0, 1) := by decide +kernel
theorem d_V_readTree_59 : decode prog_9_method_7_code 59 = .ok (.getfield 25, 3) := by decide +kernel
theorem d_V_readTree_62 : decode prog_9_method_7_code 62 = .ok (.iconst 1, 1) := by decide +kernel
theorem d_V_readTree_63 : decode prog_9_method_7_code 63 = .ok (.isub, 1) := by decide +kernel
theorem d_V_readTree_64 : decode prog_9_method_7_code 64 = .ok (.if_icmp .ne 14, 3) := by decide +kernel
theorem d_V_readTree_67 : decode prog_9_method_7_code 67 = .ok (.aload_n 0, 1) := by decide +kernel
theorem d_V_readTree_68 : decode prog_9_method_7_code 68 = .ok (.aload_n 0, 1) := by decide +kernel
theorem d_V_readTree_69 : decode prog_9_method_7_code 69 = .ok (.getfield 31, 3) := by decide +kernel
theorem d_V_readTree_72 : decode prog_9_method_7_code 72 = .ok (.putfield 28, 3) := by decide +kernel
theorem d_V_readTree_75 : decode prog_9_method_7_code 75 = .ok (.goto 22, 3) := by decide +kernel
theorem d_V_readTree_78 : decode prog_9_method_7_code 78 = .ok (.aload_n 0, 1) := by decide +kernel
theorem d_V_readTree_79 : decode prog_9_method_7_code 79 = .ok (.getfield 34, 3) := by decide +kernel
theorem d_V_readTree_82 : decode prog_9_method_7_code 82 = .ok (.iload_n 3, 1) := by decide +kernel
theorem d_V_readTree_83 : decode prog_9_method_7_code 83 = .ok (.if_icmp .ne 12, 3) := by decide +kernel
theorem d_V_readTree_86 : decode prog_9_method_7_code 86 = .ok (.aload_n 0, 1) := by decide +kernel
theorem d_V_readTree_87 : decode prog_9_method_7_code 87 = .ok (.getfield 31, 3) := by decide +kernel
theorem d_V_readTree_90 : decode prog_9_method_7_code 90 = .ok (.iload 4, 2) := by decide +kernel
theorem d_V_readTree_92 : decode prog_9_method_7_code 92 = .ok (.if_icmp .eq 5, 3) := by decide +kernel
theorem d_V_readTree_95 : decode prog_9_method_7_code 95 = .ok (.iconst 0, 1) := by decide +kernel
theorem d_V_readTree_96 : decode prog_9_method_7_code 96 = .ok (.ireturn, 1) := by decide +kernel
theorem d_V_readTree_97 : decode prog_9_method_7_code 97 = .ok (.iinc 2 (-1), 3) := by decide +kernel
theorem d_V_readTree_100 : decode prog_9_method_7_code 100 = .ok (.goto (-69), 3) := by decide +kernel
theorem d_V_readTree_103 : decode prog_9_method_7_code 103 = .ok (.iconst 1, 1) := by decide +kernel
theorem d_V_readTree_104 : decode prog_9_method_7_code 104 = .ok (.ireturn, 1) := by decide +kernel
theorem d_V_readChunk_0 : decode prog_9_method_8_code 0 = .ok (.aload_n 0, 1) := by decide +kernel
theorem d_V_readChunk_1 : decode prog_9_method_8_code 1 = .ok (.invokevirtual 49, 3) := by decide +kernel
theorem d_V_readChunk_4 : decode prog_9_method_8_code 4 = .ok (.istore_n 3, 1) := by decide +kernel
theorem d_V_readChunk_5 : decode prog_9_method_8_code 5 = .ok (.iload_n 3, 1) := by decide +kernel
theorem d_V_readChunk_6 : decode prog_9_method_8_code 6 = .ok (.iconst 1, 1) := by decide +kernel
theorem d_V_readChunk_7 : decode prog_9_method_8_code 7 = .ok (.if_icmp .lt 9, 3) := by decide +kernel
theorem d_V_readChunk_10 : decode prog_9_method_8_code 10 = .ok (.iload_n 3, 1) := by decide +kernel
theorem d_V_readChunk_11 : decode prog_9_method_8_code 11 = .ok (.bipush 48, 2) := by decide +kernel
theorem d_V_readChunk_13 : decode prog_9_method_8_code 13 = .ok (.if_icmp .le 5, 3) := by decide +kernel
theorem d_V_readChunk_16 : decode prog_9_method_8_code 16 = .ok (.iconst 0, 1) := by decide +kernel
theorem d_V_readChunk_17 : decode prog_9_method_8_code 17 = .ok (.ireturn, 1) := by decide +kernel
theorem d_V_readChunk_18 : decode prog_9_method_8_code 18 = .ok (.aload_n 0, 1) := by decide +kernel
theorem d_V_readChunk_19 : decode prog_9_method_8_code 19 = .ok (.bipush 6, 2) := by decide +kernel
theorem d_V_readChunk_21 : decode prog_9_method_8_code 21 = .ok (.iload_n 1, 1) := by decide +kernel
theorem d_V_readChunk_22 : decode prog_9_method_8_code 22 = .ok (.invokestatic 80, 3) := by decide +kernel
theorem d_V_readChunk_25 : decode prog_9_method_8_code 25 = .ok (.putfield 31, 3) := by decide +kernel
theorem d_V_readChunk_28 : decode prog_9_method_8_code 28 = .ok (.aload_n 0, 1) := by decide +kernel
theorem d_V_readChunk_29 : decode prog_9_method_8_code 29 = .ok (.iconst (-1), 1) := by decide +kernel
theorem d_V_readChunk_30 : decode prog_9_method_8_code 30 = .ok (.putfield 34, 3) := by decide +kernel
theorem d_V_readChunk_33 : decode prog_9_method_8_code 33 = .ok (.aload_n 0, 1) := by decide +kernel
theorem d_V_readChunk_34 : decode prog_9_method_8_code 34 = .ok (.iconst (-1), 1) := by decide +kernel
theorem d_V_readChunk_35 : decode prog_9_method_8_code 35 = .ok (.putfield 37, 3) := by decide +kernel
theorem d_V_readChunk_38 : decode prog_9_method_8_code 38 = .ok (.iconst 0, 1) := by decide +kernel
theorem d_V_readChunk_39 : decode prog_9_method_8_code 39 = .ok (.istore 4, 2) := by decide +kernel
theorem d_V_readChunk_41 : decode prog_9_method_8_code 41 = .ok (.iload 4, 2) := by decide +kernel
theorem d_V_readChunk_43 : decode prog_9_method_8_code 43 = .ok (.iload_n 3, 1) := by decide +kernel
theorem d_V_readChunk_44 : decode prog_9_method_8_code 44 = .ok (.if_icmp .ge 83, 3) := by decide +kernel
theorem d_V_readChunk_47 : decode prog_9_method_8_code 47 = .ok (.aload_n 0, 1) := by decide +kernel
theorem d_V_readChunk_48 : decode prog_9_method_8_code 48 = .ok (.invokevirtual 49, 3) := by decide +kernel
theorem d_V_readChunk_51 : decode prog_9_method_8_code 51 = .ok (.istore 5, 2) := by decide +kernel
theorem d_V_readChunk_53 : decode prog_9_method_8_code 53 = .ok (.aload_n 0, 1) := by decide +kernel
theorem d_V_readChunk_54 : decode prog_9_method_8_code 54 = .ok (.invokevirtual 83, 3) := by decide +kernel
theorem d_V_readChunk_57 : decode prog_9_method_8_code 57 = .ok (.istore 6, 2) := by decide +kernel
theorem d_V_readChunk_59 : decode prog_9_method_8_code 59 = .ok (.iload 5, 2) := by decide +kernel
theorem d_V_readChunk_61 : decode prog_9_method_8_code 61 = .ok (.aload_n 0, 1) := by decide +kernel
theorem d_V_readChunk_62 : decode prog_9_method_8_code 62 = .ok (.getfield 34, 3) := by decide +kernel
theorem d_V_readChunk_65 : decode prog_9_method_8_code 65 = .ok (.if_icmp .le 10, 3) := by decide +kernel
theorem d_V_readChunk_68 : decode prog_9_method_8_code 68 = .ok (.iload 5, 2) := by decide +kernel
theorem d_V_readChunk_70 : decode prog_9_method_8_code 70 = .ok (.bipush 48, 2) := by decide +kernel
theorem d_V_readChunk_72 : decode prog_9_method_8_code 72 = .ok (.if_icmp .lt 5, 3) := by decide +kernel
theorem d_V_readChunk_75 : decode prog_9_method_8_code 75 = .ok (.iconst 0, 1) := by decide +kernel
theorem d_V_readChunk_76 : decode prog_9_method_8_code 76 = .ok (.ireturn, 1) := by decide +kernel
theorem d_V_readChunk_77 : decode prog_9_method_8_code 77 = .ok (.aload_n 0, 1) := by decide +kernel
theorem d_V_readChunk_78 : decode prog_9_method_8_code 78 = .ok (.aload_n 0, 1) := by decide +kernel
theorem d_V_readChunk_79 : decode prog_9_method_8_code 79 = .ok (.getfield 31, 3) := by decide +kernel
theorem d_V_readChunk_82 : decode prog_9_method_8_code 82 = .ok (.iload 5, 2) := by decide +kernel
theorem d_V_readChunk_84 : decode prog_9_method_8_code 84 = .ok (.invokestatic 80, 3) := by decide +kernel
theorem d_V_readChunk_87 : decode prog_9_method_8_code 87 = .ok (.iload 6, 2) := by decide +kernel
theorem d_V_readChunk_89 : decode prog_9_method_8_code 89 = .ok (.invokestatic 80, 3) := by decide +kernel
theorem d_V_readChunk_92 : decode prog_9_method_8_code 92 = .ok (.putfield 31, 3) := by decide +kernel
theorem d_V_readChunk_95 : decode prog_9_method_8_code 95 = .ok (.aload_n 0, 1) := by decide +kernel
theorem d_V_readChunk_96 : decode prog_9_method_8_code 96 = .ok (.iload 5, 2) := by decide +kernel
theorem d_V_readChunk_98 : decode prog_9_method_8_code 98 = .ok (.putfield 34, 3) := by decide +kernel
theorem d_V_readChunk_101 : decode prog_9_method_8_code 101 = .ok (.aload_n 0, 1) := by decide +kernel
theorem d_V_readChunk_102 : decode prog_9_method_8_code 102 = .ok (.getfield 37, 3) := by decide +kernel
theorem d_V_readChunk_105 : decode prog_9_method_8_code 105 = .ok (.iload_n 2, 1) := by decide +kernel
theorem d_V_readChunk_106 : decode prog_9_method_8_code 106 = .ok (.if_icmp .ge 15, 3) := by decide +kernel
theorem d_V_readChunk_109 : decode prog_9_method_8_code 109 = .ok (.aload_n 0, 1) := by decide +kernel
theorem d_V_readChunk_110 : decode prog_9_method_8_code 110 = .ok (.iload 5, 2) := by decide +kernel
theorem d_V_readChunk_112 : decode prog_9_method_8_code 112 = .ok (.putfield 37, 3) := by decide +kernel
theorem d_V_readChunk_115 : decode prog_9_method_8_code 115 = .ok (.aload_n 0, 1) := by decide +kernel
theorem d_V_readChunk_116 : decode prog_9_method_8_code 116 = .ok (.iload 6, 2) := by decide +kernel
theorem d_V_readChunk_118 : decode prog_9_method_8_code 118 = .ok (.putfield 40, 3) := by decide +kernel
theorem d_V_readChunk_121 : decode prog_9_method_8_code 121 = .ok (.iinc 4 1, 3) := by decide +kernel
theorem d_V_readChunk_124 : decode prog_9_method_8_code 124 = .ok (.goto (-83), 3) := by decide +kernel
theorem d_V_readChunk_127 : decode prog_9_method_8_code 127 = .ok (.iconst 1, 1) := by decide +kernel
theorem d_V_readChunk_128 : decode prog_9_method_8_code 128 = .ok (.ireturn, 1) := by decide +kernel
theorem d_V_nextInt_0 : decode prog_9_method_6_code 0 = .ok (.iconst 0, 1) := by decide +kernel
theorem d_V_nextInt_1 : decode prog_9_method_6_code 1 = .ok (.istore_n 1, 1) := by decide +kernel
theorem d_V_nextInt_2 : decode prog_9_method_6_code 2 = .ok (.iconst 0, 1) := by decide +kernel
theorem d_V_nextInt_3 : decode prog_9_method_6_code 3 = .ok (.istore_n 2, 1) := by decide +kernel
theorem d_V_nextInt_4 : decode prog_9_method_6_code 4 = .ok (.iload_n 2, 1) := by decide +kernel
theorem d_V_nextInt_5 : decode prog_9_method_6_code 5 = .ok (.iconst 4, 1) := by decide +kernel
theorem d_V_nextInt_6 : decode prog_9_method_6_code 6 = .ok (.if_icmp .ge 19, 3) := by decide +kernel
theorem d_V_nextInt_9 : decode prog_9_method_6_code 9 = .ok (.iload_n 1, 1) := by decide +kernel
theorem d_V_nextInt_10 : decode prog_9_method_6_code 10 = .ok (.bipush 8, 2) := by decide +kernel
theorem d_V_nextInt_12 : decode prog_9_method_6_code 12 = .ok (.ishl, 1) := by decide +kernel
theorem d_V_nextInt_13 : decode prog_9_method_6_code 13 = .ok (.aload_n 0, 1) := by decide +kernel
theorem d_V_nextInt_14 : decode prog_9_method_6_code 14 = .ok (.invokevirtual 49, 3) := by decide +kernel
theorem d_V_nextInt_17 : decode prog_9_method_6_code 17 = .ok (.ior, 1) := by decide +kernel
theorem d_V_nextInt_18 : decode prog_9_method_6_code 18 = .ok (.istore_n 1, 1) := by decide +kernel
theorem d_V_nextInt_19 : decode prog_9_method_6_code 19 = .ok (.iinc 2 1, 3) := by decide +kernel
theorem d_V_nextInt_22 : decode prog_9_method_6_code 22 = .ok (.goto (-18), 3) := by decide +kernel
theorem d_V_nextInt_25 : decode prog_9_method_6_code 25 = .ok (.iload_n 1, 1) := by decide +kernel
theorem d_V_nextInt_26 : decode prog_9_method_6_code 26 = .ok (.ireturn, 1) := by decide +kernel
theorem d_V_climb_0 : decode prog_9_method_9_code 0 = .ok (.iload_n 3, 1) := by decide +kernel
theorem d_V_climb_1 : decode prog_9_method_9_code 1 = .ok (.iconst 2, 1) := by decide +kernel
theorem d_V_climb_2 : decode prog_9_method_9_code 2 = .ok (.if_icmp .ge 5, 3) := by decide +kernel
theorem d_V_climb_5 : decode prog_9_method_9_code 5 = .ok (.iload_n 1, 1) := by decide +kernel
theorem d_V_climb_6 : decode prog_9_method_9_code 6 = .ok (.ireturn, 1) := by decide +kernel
theorem d_V_climb_7 : decode prog_9_method_9_code 7 = .ok (.iload_n 3, 1) := by decide +kernel
theorem d_V_climb_8 : decode prog_9_method_9_code 8 = .ok (.invokestatic 86, 3) := by decide +kernel
theorem d_V_climb_11 : decode prog_9_method_9_code 11 = .ok (.istore 4, 2) := by decide +kernel
theorem d_V_climb_13 : decode prog_9_method_9_code 13 = .ok (.iload_n 2, 1) := by decide +kernel
theorem d_V_climb_14 : decode prog_9_method_9_code 14 = .ok (.iload 4, 2) := by decide +kernel
theorem d_V_climb_16 : decode prog_9_method_9_code 16 = .ok (.if_icmp .ge 23, 3) := by decide +kernel
theorem d_V_climb_19 : decode prog_9_method_9_code 19 = .ok (.aload_n 0, 1) := by decide +kernel
theorem d_V_climb_20 : decode prog_9_method_9_code 20 = .ok (.iload_n 1, 1) := by decide +kernel
theorem d_V_climb_21 : decode prog_9_method_9_code 21 = .ok (.iload_n 2, 1) := by decide +kernel
theorem d_V_climb_22 : decode prog_9_method_9_code 22 = .ok (.iload 4, 2) := by decide +kernel
theorem d_V_climb_24 : decode prog_9_method_9_code 24 = .ok (.invokevirtual 64, 3) := by decide +kernel
theorem d_V_climb_27 : decode prog_9_method_9_code 27 = .ok (.istore 5, 2) := by decide +kernel
theorem d_V_climb_29 : decode prog_9_method_9_code 29 = .ok (.iload 5, 2) := by decide +kernel
theorem d_V_climb_31 : decode prog_9_method_9_code 31 = .ok (.aload_n 0, 1) := by decide +kernel
theorem d_V_climb_32 : decode prog_9_method_9_code 32 = .ok (.invokevirtual 83, 3) := by decide +kernel
theorem d_V_climb_35 : decode prog_9_method_9_code 35 = .ok (.invokestatic 89, 3) := by decide +kernel
theorem d_V_climb_38 : decode prog_9_method_9_code 38 = .ok (.ireturn, 1) := by decide +kernel
theorem d_V_climb_39 : decode prog_9_method_9_code 39 = .ok (.aload_n 0, 1) := by decide +kernel
theorem d_V_climb_40 : decode prog_9_method_9_code 40 = .ok (.iload_n 1, 1) := by decide +kernel
theorem d_V_climb_41 : decode prog_9_method_9_code 41 = .ok (.iload_n 2, 1) := by decide +kernel
theorem d_V_climb_42 : decode prog_9_method_9_code 42 = .ok (.iload 4, 2) := by decide +kernel
theorem d_V_climb_44 : decode prog_9_method_9_code 44 = .ok (.isub, 1) := by decide +kernel
theorem d_V_climb_45 : decode prog_9_method_9_code 45 = .ok (.iload_n 3, 1) := by decide +kernel
theorem d_V_climb_46 : decode prog_9_method_9_code 46 = .ok (.iload 4, 2) := by decide +kernel
theorem d_V_climb_48 : decode prog_9_method_9_code 48 = .ok (.isub, 1) := by decide +kernel
theorem d_V_climb_49 : decode prog_9_method_9_code 49 = .ok (.invokevirtual 64, 3) := by decide +kernel
theorem d_V_climb_52 : decode prog_9_method_9_code 52 = .ok (.istore 5, 2) := by decide +kernel
theorem d_V_climb_54 : decode prog_9_method_9_code 54 = .ok (.aload_n 0, 1) := by decide +kernel
theorem d_V_climb_55 : decode prog_9_method_9_code 55 = .ok (.invokevirtual 83, 3) := by decide +kernel
theorem d_V_climb_58 : decode prog_9_method_9_code 58 = .ok (.iload 5, 2) := by decide +kernel
theorem d_V_climb_60 : decode prog_9_method_9_code 60 = .ok (.invokestatic 89, 3) := by decide +kernel
theorem d_V_climb_63 : decode prog_9_method_9_code 63 = .ok (.ireturn, 1) := by decide +kernel
theorem d_V_noteValue_0 : decode prog_9_method_3_code 0 = .ok (.aload_n 0, 1) := by decide +kernel
theorem d_V_noteValue_1 : decode prog_9_method_3_code 1 = .ok (.getfield 25, 3) := by decide +kernel
theorem d_V_noteValue_4 : decode prog_9_method_3_code 4 = .ok (.ifCond .eq 11, 3) := by decide +kernel
theorem d_V_noteValue_7 : decode prog_9_method_3_code 7 = .ok (.aload_n 0, 1) := by decide +kernel
theorem d_V_noteValue_8 : decode prog_9_method_3_code 8 = .ok (.getfield 37, 3) := by decide +kernel
theorem d_V_noteValue_11 : decode prog_9_method_3_code 11 = .ok (.iload_n 1, 1) := by decide +kernel
theorem d_V_noteValue_12 : decode prog_9_method_3_code 12 = .ok (.if_icmp .eq 5, 3) := by decide +kernel
theorem d_V_noteValue_15 : decode prog_9_method_3_code 15 = .ok (.iconst 0, 1) := by decide +kernel
theorem d_V_noteValue_16 : decode prog_9_method_3_code 16 = .ok (.ireturn, 1) := by decide +kernel
theorem d_V_noteValue_17 : decode prog_9_method_3_code 17 = .ok (.aload_n 0, 1) := by decide +kernel
theorem d_V_noteValue_18 : decode prog_9_method_3_code 18 = .ok (.aload_n 0, 1) := by decide +kernel
theorem d_V_noteValue_19 : decode prog_9_method_3_code 19 = .ok (.getfield 40, 3) := by decide +kernel
theorem d_V_noteValue_22 : decode prog_9_method_3_code 22 = .ok (.putfield 18, 3) := by decide +kernel
theorem d_V_noteValue_25 : decode prog_9_method_3_code 25 = .ok (.iconst 1, 1) := by decide +kernel
theorem d_V_noteValue_26 : decode prog_9_method_3_code 26 = .ok (.ireturn, 1) := by decide +kernel
theorem d_K_verifyGrowth_0 : decode prog_1_method_20_code 0 = .ok (.iload_n 2, 1) := by decide +kernel
theorem d_K_verifyGrowth_1 : decode prog_1_method_20_code 1 = .ok (.ifCond .le 20, 3) := by decide +kernel
theorem d_K_verifyGrowth_4 : decode prog_1_method_20_code 4 = .ok (.iload_n 2, 1) := by decide +kernel
theorem d_K_verifyGrowth_5 : decode prog_1_method_20_code 5 = .ok (.iload 4, 2) := by decide +kernel
theorem d_K_verifyGrowth_7 : decode prog_1_method_20_code 7 = .ok (.if_icmp .ge 14, 3) := by decide +kernel
theorem d_K_verifyGrowth_10 : decode prog_1_method_20_code 10 = .ok (.iload 4, 2) := by decide +kernel
theorem d_K_verifyGrowth_12 : decode prog_1_method_20_code 12 = .ok (.bipush 16, 2) := by decide +kernel
theorem d_K_verifyGrowth_14 : decode prog_1_method_20_code 14 = .ok (.if_icmp .gt 7, 3) := by decide +kernel
theorem d_K_verifyGrowth_17 : decode prog_1_method_20_code 17 = .ok (.iconst 1, 1) := by decide +kernel
theorem d_K_verifyGrowth_18 : decode prog_1_method_20_code 18 = .ok (.goto 4, 3) := by decide +kernel
theorem d_K_verifyGrowth_21 : decode prog_1_method_20_code 21 = .ok (.iconst 0, 1) := by decide +kernel
theorem d_K_verifyGrowth_22 : decode prog_1_method_20_code 22 = .ok (.invokestatic 144, 3) := by decide +kernel
theorem d_K_verifyGrowth_25 : decode prog_1_method_20_code 25 = .ok (.aload_n 0, 1) := by decide +kernel
theorem d_K_verifyGrowth_26 : decode prog_1_method_20_code 26 = .ok (.getfield 47, 3) := by decide +kernel
theorem d_K_verifyGrowth_29 : decode prog_1_method_20_code 29 = .ok (.iload_n 1, 1) := by decide +kernel
theorem d_K_verifyGrowth_30 : decode prog_1_method_20_code 30 = .ok (.iload_n 2, 1) := by decide +kernel
theorem d_K_verifyGrowth_31 : decode prog_1_method_20_code 31 = .ok (.iload_n 3, 1) := by decide +kernel
theorem d_K_verifyGrowth_32 : decode prog_1_method_20_code 32 = .ok (.iload 4, 2) := by decide +kernel
theorem d_K_verifyGrowth_34 : decode prog_1_method_20_code 34 = .ok (.invokevirtual 192, 3) := by decide +kernel
theorem d_K_verifyGrowth_37 : decode prog_1_method_20_code 37 = .ok (.istore 5, 2) := by decide +kernel
theorem d_K_verifyGrowth_39 : decode prog_1_method_20_code 39 = .ok (.aload_n 0, 1) := by decide +kernel
theorem d_K_verifyGrowth_40 : decode prog_1_method_20_code 40 = .ok (.getfield 47, 3) := by decide +kernel
theorem d_K_verifyGrowth_43 : decode prog_1_method_20_code 43 = .ok (.getfield 168, 3) := by decide +kernel
theorem d_K_verifyGrowth_46 : decode prog_1_method_20_code 46 = .ok (.invokevirtual 183, 3) := by decide +kernel
theorem d_K_verifyGrowth_49 : decode prog_1_method_20_code 49 = .ok (.iload 5, 2) := by decide +kernel
theorem d_K_verifyGrowth_51 : decode prog_1_method_20_code 51 = .ok (.ireturn, 1) := by decide +kernel
theorem d_V_takesGrowth_0 : decode prog_9_method_4_code 0 = .ok (.aload_n 0, 1) := by decide +kernel
theorem d_V_takesGrowth_1 : decode prog_9_method_4_code 1 = .ok (.iconst 0, 1) := by decide +kernel
theorem d_V_takesGrowth_2 : decode prog_9_method_4_code 2 = .ok (.putfield 22, 3) := by decide +kernel
theorem d_V_takesGrowth_5 : decode prog_9_method_4_code 5 = .ok (.iconst 1, 1) := by decide +kernel
theorem d_V_takesGrowth_6 : decode prog_9_method_4_code 6 = .ok (.iconst 4, 1) := by decide +kernel
theorem d_V_takesGrowth_7 : decode prog_9_method_4_code 7 = .ok (.aload_n 0, 1) := by decide +kernel
theorem d_V_takesGrowth_8 : decode prog_9_method_4_code 8 = .ok (.invokevirtual 49, 3) := by decide +kernel
theorem d_V_takesGrowth_11 : decode prog_9_method_4_code 11 = .ok (.imul, 1) := by decide +kernel
theorem d_V_takesGrowth_12 : decode prog_9_method_4_code 12 = .ok (.iadd, 1) := by decide +kernel
theorem d_V_takesGrowth_13 : decode prog_9_method_4_code 13 = .ok (.istore 5, 2) := by decide +kernel
theorem d_V_takesGrowth_15 : decode prog_9_method_4_code 15 = .ok (.aload_n 0, 1) := by decide +kernel
theorem d_V_takesGrowth_16 : decode prog_9_method_4_code 16 = .ok (.iload_n 1, 1) := by decide +kernel
theorem d_V_takesGrowth_17 : decode prog_9_method_4_code 17 = .ok (.iconst 0, 1) := by decide +kernel
theorem d_V_takesGrowth_18 : decode prog_9_method_4_code 18 = .ok (.iload 4, 2) := by decide +kernel
theorem d_V_takesGrowth_20 : decode prog_9_method_4_code 20 = .ok (.iload_n 2, 1) := by decide +kernel
theorem d_V_takesGrowth_21 : decode prog_9_method_4_code 21 = .ok (.invokevirtual 68, 3) := by decide +kernel
theorem d_V_takesGrowth_24 : decode prog_9_method_4_code 24 = .ok (.aload_n 0, 1) := by decide +kernel
theorem d_V_takesGrowth_25 : decode prog_9_method_4_code 25 = .ok (.getfield 22, 3) := by decide +kernel
theorem d_V_takesGrowth_28 : decode prog_9_method_4_code 28 = .ok (.iload 5, 2) := by decide +kernel
theorem d_V_takesGrowth_30 : decode prog_9_method_4_code 30 = .ok (.if_icmp .ne 35, 3) := by decide +kernel
theorem d_V_takesGrowth_33 : decode prog_9_method_4_code 33 = .ok (.iload 5, 2) := by decide +kernel
theorem d_V_takesGrowth_35 : decode prog_9_method_4_code 35 = .ok (.aload_n 0, 1) := by decide +kernel
theorem d_V_takesGrowth_36 : decode prog_9_method_4_code 36 = .ok (.getfield 12, 3) := by decide +kernel
theorem d_V_takesGrowth_39 : decode prog_9_method_4_code 39 = .ok (.getfield 57, 3) := by decide +kernel
theorem d_V_takesGrowth_42 : decode prog_9_method_4_code 42 = .ok (.if_icmp .ne 23, 3) := by decide +kernel
theorem d_V_takesGrowth_45 : decode prog_9_method_4_code 45 = .ok (.aload_n 0, 1) := by decide +kernel
theorem d_V_takesGrowth_46 : decode prog_9_method_4_code 46 = .ok (.getfield 43, 3) := by decide +kernel
theorem d_V_takesGrowth_49 : decode prog_9_method_4_code 49 = .ok (.iload_n 1, 1) := by decide +kernel
theorem d_V_takesGrowth_50 : decode prog_9_method_4_code 50 = .ok (.if_icmp .ne 15, 3) := by decide +kernel
theorem d_V_takesGrowth_53 : decode prog_9_method_4_code 53 = .ok (.aload_n 0, 1) := by decide +kernel
theorem d_V_takesGrowth_54 : decode prog_9_method_4_code 54 = .ok (.getfield 46, 3) := by decide +kernel
theorem d_V_takesGrowth_57 : decode prog_9_method_4_code 57 = .ok (.iload_n 3, 1) := by decide +kernel
theorem d_V_takesGrowth_58 : decode prog_9_method_4_code 58 = .ok (.if_icmp .ne 7, 3) := by decide +kernel
theorem d_V_takesGrowth_61 : decode prog_9_method_4_code 61 = .ok (.iconst 1, 1) := by decide +kernel
theorem d_V_takesGrowth_62 : decode prog_9_method_4_code 62 = .ok (.goto 4, 3) := by decide +kernel
theorem d_V_takesGrowth_65 : decode prog_9_method_4_code 65 = .ok (.iconst 0, 1) := by decide +kernel
theorem d_V_takesGrowth_66 : decode prog_9_method_4_code 66 = .ok (.ireturn, 1) := by decide +kernel
theorem d_V_readPart_0 : decode prog_9_method_10_code 0 = .ok (.iload 4, 2) := by decide +kernel
theorem d_V_readPart_2 : decode prog_9_method_10_code 2 = .ok (.iload_n 3, 1) := by decide +kernel
theorem d_V_readPart_3 : decode prog_9_method_10_code 3 = .ok (.if_icmp .lt 28, 3) := by decide +kernel
theorem d_V_readPart_6 : decode prog_9_method_10_code 6 = .ok (.aload_n 0, 1) := by decide +kernel
theorem d_V_readPart_7 : decode prog_9_method_10_code 7 = .ok (.iload_n 2, 1) := by decide +kernel
theorem d_V_readPart_8 : decode prog_9_method_10_code 8 = .ok (.ifCond .ne 7, 3) := by decide +kernel
theorem d_V_readPart_11 : decode prog_9_method_10_code 11 = .ok (.iload_n 1, 1) := by decide +kernel
theorem d_V_readPart_12 : decode prog_9_method_10_code 12 = .ok (.goto 7, 3) := by decide +kernel
theorem d_V_readPart_15 : decode prog_9_method_10_code 15 = .ok (.aload_n 0, 1) := by decide +kernel
theorem d_V_readPart_16 : decode prog_9_method_10_code 16 = .ok (.invokevirtual 83, 3) := by decide +kernel
theorem d_V_readPart_19 : decode prog_9_method_10_code 19 = .ok (.putfield 43, 3) := by decide +kernel
theorem d_V_readPart_22 : decode prog_9_method_10_code 22 = .ok (.aload_n 0, 1) := by decide +kernel
theorem d_V_readPart_23 : decode prog_9_method_10_code 23 = .ok (.aload_n 0, 1) := by decide +kernel
theorem d_V_readPart_24 : decode prog_9_method_10_code 24 = .ok (.getfield 43, 3) := by decide +kernel
theorem d_V_readPart_27 : decode prog_9_method_10_code 27 = .ok (.putfield 46, 3) := by decide +kernel
theorem d_V_readPart_30 : decode prog_9_method_10_code 30 = .ok (.return_, 1) := by decide +kernel
theorem d_V_readPart_31 : decode prog_9_method_10_code 31 = .ok (.iload_n 3, 1) := by decide +kernel
theorem d_V_readPart_32 : decode prog_9_method_10_code 32 = .ok (.invokestatic 86, 3) := by decide +kernel
theorem d_V_readPart_35 : decode prog_9_method_10_code 35 = .ok (.istore 5, 2) := by decide +kernel
theorem d_V_readPart_37 : decode prog_9_method_10_code 37 = .ok (.iload 4, 2) := by decide +kernel
theorem d_V_readPart_39 : decode prog_9_method_10_code 39 = .ok (.iload 5, 2) := by decide +kernel
theorem d_V_readPart_41 : decode prog_9_method_10_code 41 = .ok (.if_icmp .gt 31, 3) := by decide +kernel
theorem d_V_readPart_44 : decode prog_9_method_10_code 44 = .ok (.aload_n 0, 1) := by decide +kernel
theorem d_V_readPart_45 : decode prog_9_method_10_code 45 = .ok (.iload_n 1, 1) := by decide +kernel
theorem d_V_readPart_46 : decode prog_9_method_10_code 46 = .ok (.iload_n 2, 1) := by decide +kernel
theorem d_V_readPart_47 : decode prog_9_method_10_code 47 = .ok (.iload 5, 2) := by decide +kernel
theorem d_V_readPart_49 : decode prog_9_method_10_code 49 = .ok (.iload 4, 2) := by decide +kernel
theorem d_V_readPart_51 : decode prog_9_method_10_code 51 = .ok (.invokevirtual 68, 3) := by decide +kernel
theorem d_V_readPart_54 : decode prog_9_method_10_code 54 = .ok (.aload_n 0, 1) := by decide +kernel
theorem d_V_readPart_55 : decode prog_9_method_10_code 55 = .ok (.aload_n 0, 1) := by decide +kernel
theorem d_V_readPart_56 : decode prog_9_method_10_code 56 = .ok (.getfield 46, 3) := by decide +kernel
theorem d_V_readPart_59 : decode prog_9_method_10_code 59 = .ok (.aload_n 0, 1) := by decide +kernel
theorem d_V_readPart_60 : decode prog_9_method_10_code 60 = .ok (.invokevirtual 83, 3) := by decide +kernel
theorem d_V_readPart_63 : decode prog_9_method_10_code 63 = .ok (.invokestatic 89, 3) := by decide +kernel
theorem d_V_readPart_66 : decode prog_9_method_10_code 66 = .ok (.putfield 46, 3) := by decide +kernel
theorem d_V_readPart_69 : decode prog_9_method_10_code 69 = .ok (.goto 53, 3) := by decide +kernel
theorem d_V_readPart_72 : decode prog_9_method_10_code 72 = .ok (.aload_n 0, 1) := by decide +kernel
theorem d_V_readPart_73 : decode prog_9_method_10_code 73 = .ok (.iload_n 1, 1) := by decide +kernel
theorem d_V_readPart_74 : decode prog_9_method_10_code 74 = .ok (.iload_n 2, 1) := by decide +kernel
theorem d_V_readPart_75 : decode prog_9_method_10_code 75 = .ok (.iload 5, 2) := by decide +kernel
theorem d_V_readPart_77 : decode prog_9_method_10_code 77 = .ok (.iadd, 1) := by decide +kernel
theorem d_V_readPart_78 : decode prog_9_method_10_code 78 = .ok (.iload_n 3, 1) := by decide +kernel
theorem d_V_readPart_79 : decode prog_9_method_10_code 79 = .ok (.iload 5, 2) := by decide +kernel
theorem d_V_readPart_81 : decode prog_9_method_10_code 81 = .ok (.isub, 1) := by decide +kernel
theorem d_V_readPart_82 : decode prog_9_method_10_code 82 = .ok (.iload 4, 2) := by decide +kernel
theorem d_V_readPart_84 : decode prog_9_method_10_code 84 = .ok (.iload 5, 2) := by decide +kernel
theorem d_V_readPart_86 : decode prog_9_method_10_code 86 = .ok (.isub, 1) := by decide +kernel
theorem d_V_readPart_87 : decode prog_9_method_10_code 87 = .ok (.invokevirtual 68, 3) := by decide +kernel
theorem d_V_readPart_90 : decode prog_9_method_10_code 90 = .ok (.aload_n 0, 1) := by decide +kernel
theorem d_V_readPart_91 : decode prog_9_method_10_code 91 = .ok (.invokevirtual 83, 3) := by decide +kernel
theorem d_V_readPart_94 : decode prog_9_method_10_code 94 = .ok (.istore 6, 2) := by decide +kernel
theorem d_V_readPart_96 : decode prog_9_method_10_code 96 = .ok (.aload_n 0, 1) := by decide +kernel
theorem d_V_readPart_97 : decode prog_9_method_10_code 97 = .ok (.iload 6, 2) := by decide +kernel
theorem d_V_readPart_99 : decode prog_9_method_10_code 99 = .ok (.aload_n 0, 1) := by decide +kernel
theorem d_V_readPart_100 : decode prog_9_method_10_code 100 = .ok (.getfield 43, 3) := by decide +kernel
theorem d_V_readPart_103 : decode prog_9_method_10_code 103 = .ok (.invokestatic 89, 3) := by decide +kernel
theorem d_V_readPart_106 : decode prog_9_method_10_code 106 = .ok (.putfield 43, 3) := by decide +kernel
theorem d_V_readPart_109 : decode prog_9_method_10_code 109 = .ok (.aload_n 0, 1) := by decide +kernel
theorem d_V_readPart_110 : decode prog_9_method_10_code 110 = .ok (.iload 6, 2) := by decide +kernel
theorem d_V_readPart_112 : decode prog_9_method_10_code 112 = .ok (.aload_n 0, 1) := by decide +kernel
theorem d_V_readPart_113 : decode prog_9_method_10_code 113 = .ok (.getfield 46, 3) := by decide +kernel
theorem d_V_readPart_116 : decode prog_9_method_10_code 116 = .ok (.invokestatic 89, 3) := by decide +kernel
theorem d_V_readPart_119 : decode prog_9_method_10_code 119 = .ok (.putfield 46, 3) := by decide +kernel
theorem d_V_readPart_122 : decode prog_9_method_10_code 122 = .ok (.return_, 1) := by decide +kernel
