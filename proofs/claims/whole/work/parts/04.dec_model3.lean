theorem d_M_proveGrowth_0 : decode prog_11_method_44_code 0 = .ok (.iload_n 1, 1) := by decide +kernel
theorem d_M_proveGrowth_1 : decode prog_11_method_44_code 1 = .ok (.iconst 1, 1) := by decide +kernel
theorem d_M_proveGrowth_2 : decode prog_11_method_44_code 2 = .ok (.if_icmp .lt 16, 3) := by decide +kernel
theorem d_M_proveGrowth_5 : decode prog_11_method_44_code 5 = .ok (.iload_n 1, 1) := by decide +kernel
theorem d_M_proveGrowth_6 : decode prog_11_method_44_code 6 = .ok (.iload_n 2, 1) := by decide +kernel
theorem d_M_proveGrowth_7 : decode prog_11_method_44_code 7 = .ok (.if_icmp .ge 11, 3) := by decide +kernel
theorem d_M_proveGrowth_10 : decode prog_11_method_44_code 10 = .ok (.iload_n 2, 1) := by decide +kernel
theorem d_M_proveGrowth_11 : decode prog_11_method_44_code 11 = .ok (.aload_n 0, 1) := by decide +kernel
theorem d_M_proveGrowth_12 : decode prog_11_method_44_code 12 = .ok (.getfield 69, 3) := by decide +kernel
theorem d_M_proveGrowth_15 : decode prog_11_method_44_code 15 = .ok (.if_icmp .le 9, 3) := by decide +kernel
theorem d_M_proveGrowth_18 : decode prog_11_method_44_code 18 = .ok (.aload_n 0, 1) := by decide +kernel
theorem d_M_proveGrowth_19 : decode prog_11_method_44_code 19 = .ok (.iconst 1, 1) := by decide +kernel
theorem d_M_proveGrowth_20 : decode prog_11_method_44_code 20 = .ok (.invokevirtual 130, 3) := by decide +kernel
theorem d_M_proveGrowth_23 : decode prog_11_method_44_code 23 = .ok (.ireturn, 1) := by decide +kernel
theorem d_M_proveGrowth_24 : decode prog_11_method_44_code 24 = .ok (.aload_n 0, 1) := by decide +kernel
theorem d_M_proveGrowth_25 : decode prog_11_method_44_code 25 = .ok (.iconst 0, 1) := by decide +kernel
theorem d_M_proveGrowth_26 : decode prog_11_method_44_code 26 = .ok (.putfield 73, 3) := by decide +kernel
theorem d_M_proveGrowth_29 : decode prog_11_method_44_code 29 = .ok (.aload_n 0, 1) := by decide +kernel
theorem d_M_proveGrowth_30 : decode prog_11_method_44_code 30 = .ok (.iload_n 1, 1) := by decide +kernel
theorem d_M_proveGrowth_31 : decode prog_11_method_44_code 31 = .ok (.iload_n 2, 1) := by decide +kernel
theorem d_M_proveGrowth_32 : decode prog_11_method_44_code 32 = .ok (.invokevirtual 191, 3) := by decide +kernel
theorem d_M_proveGrowth_35 : decode prog_11_method_44_code 35 = .ok (.pop, 1) := by decide +kernel
theorem d_M_proveGrowth_36 : decode prog_11_method_44_code 36 = .ok (.aload_n 0, 1) := by decide +kernel
theorem d_M_proveGrowth_37 : decode prog_11_method_44_code 37 = .ok (.invokevirtual 178, 3) := by decide +kernel
theorem d_M_proveGrowth_40 : decode prog_11_method_44_code 40 = .ok (.aload_n 0, 1) := by decide +kernel
theorem d_M_proveGrowth_41 : decode prog_11_method_44_code 41 = .ok (.getfield 165, 3) := by decide +kernel
theorem d_M_proveGrowth_44 : decode prog_11_method_44_code 44 = .ok (.ireturn, 1) := by decide +kernel
theorem d_M_growth_0 : decode prog_11_method_36_code 0 = .ok (.aload_n 0, 1) := by decide +kernel
theorem d_M_growth_1 : decode prog_11_method_36_code 1 = .ok (.iconst 0, 1) := by decide +kernel
theorem d_M_growth_2 : decode prog_11_method_36_code 2 = .ok (.putfield 155, 3) := by decide +kernel
theorem d_M_growth_5 : decode prog_11_method_36_code 5 = .ok (.iconst 0, 1) := by decide +kernel
theorem d_M_growth_6 : decode prog_11_method_36_code 6 = .ok (.istore_n 3, 1) := by decide +kernel
theorem d_M_growth_7 : decode prog_11_method_36_code 7 = .ok (.iload_n 2, 1) := by decide +kernel
theorem d_M_growth_8 : decode prog_11_method_36_code 8 = .ok (.istore 4, 2) := by decide +kernel
theorem d_M_growth_10 : decode prog_11_method_36_code 10 = .ok (.iload_n 1, 1) := by decide +kernel
theorem d_M_growth_11 : decode prog_11_method_36_code 11 = .ok (.istore 5, 2) := by decide +kernel
theorem d_M_growth_13 : decode prog_11_method_36_code 13 = .ok (.iload 5, 2) := by decide +kernel
theorem d_M_growth_15 : decode prog_11_method_36_code 15 = .ok (.iload 4, 2) := by decide +kernel
theorem d_M_growth_17 : decode prog_11_method_36_code 17 = .ok (.if_icmp .eq 68, 3) := by decide +kernel
theorem d_M_growth_20 : decode prog_11_method_36_code 20 = .ok (.iload 4, 2) := by decide +kernel
theorem d_M_growth_22 : decode prog_11_method_36_code 22 = .ok (.invokestatic 158, 3) := by decide +kernel
theorem d_M_growth_25 : decode prog_11_method_36_code 25 = .ok (.istore 6, 2) := by decide +kernel
theorem d_M_growth_27 : decode prog_11_method_36_code 27 = .ok (.iload 5, 2) := by decide +kernel
theorem d_M_growth_29 : decode prog_11_method_36_code 29 = .ok (.iload 6, 2) := by decide +kernel
theorem d_M_growth_31 : decode prog_11_method_36_code 31 = .ok (.if_icmp .gt 24, 3) := by decide +kernel
theorem d_M_growth_34 : decode prog_11_method_36_code 34 = .ok (.aload_n 0, 1) := by decide +kernel
theorem d_M_growth_35 : decode prog_11_method_36_code 35 = .ok (.iload_n 3, 1) := by decide +kernel
theorem d_M_growth_36 : decode prog_11_method_36_code 36 = .ok (.iload 6, 2) := by decide +kernel
theorem d_M_growth_38 : decode prog_11_method_36_code 38 = .ok (.iadd, 1) := by decide +kernel
theorem d_M_growth_39 : decode prog_11_method_36_code 39 = .ok (.iload 4, 2) := by decide +kernel
theorem d_M_growth_41 : decode prog_11_method_36_code 41 = .ok (.iload 6, 2) := by decide +kernel
theorem d_M_growth_43 : decode prog_11_method_36_code 43 = .ok (.isub, 1) := by decide +kernel
theorem d_M_growth_44 : decode prog_11_method_36_code 44 = .ok (.iconst 0, 1) := by decide +kernel
theorem d_M_growth_45 : decode prog_11_method_36_code 45 = .ok (.invokevirtual 161, 3) := by decide +kernel
theorem d_M_growth_48 : decode prog_11_method_36_code 48 = .ok (.iload 6, 2) := by decide +kernel
theorem d_M_growth_50 : decode prog_11_method_36_code 50 = .ok (.istore 4, 2) := by decide +kernel
theorem d_M_growth_52 : decode prog_11_method_36_code 52 = .ok (.goto 30, 3) := by decide +kernel
theorem d_M_growth_55 : decode prog_11_method_36_code 55 = .ok (.aload_n 0, 1) := by decide +kernel
theorem d_M_growth_56 : decode prog_11_method_36_code 56 = .ok (.iload_n 3, 1) := by decide +kernel
theorem d_M_growth_57 : decode prog_11_method_36_code 57 = .ok (.iload 6, 2) := by decide +kernel
theorem d_M_growth_59 : decode prog_11_method_36_code 59 = .ok (.iconst 1, 1) := by decide +kernel
theorem d_M_growth_60 : decode prog_11_method_36_code 60 = .ok (.invokevirtual 161, 3) := by decide +kernel
theorem d_M_growth_63 : decode prog_11_method_36_code 63 = .ok (.iload_n 3, 1) := by decide +kernel
theorem d_M_growth_64 : decode prog_11_method_36_code 64 = .ok (.iload 6, 2) := by decide +kernel
theorem d_M_growth_66 : decode prog_11_method_36_code 66 = .ok (.iadd, 1) := by decide +kernel
theorem d_M_growth_67 : decode prog_11_method_36_code 67 = .ok (.istore_n 3, 1) := by decide +kernel
theorem d_M_growth_68 : decode prog_11_method_36_code 68 = .ok (.iload 4, 2) := by decide +kernel
theorem d_M_growth_70 : decode prog_11_method_36_code 70 = .ok (.iload 6, 2) := by decide +kernel
theorem d_M_growth_72 : decode prog_11_method_36_code 72 = .ok (.isub, 1) := by decide +kernel
theorem d_M_growth_73 : decode prog_11_method_36_code 73 = .ok (.istore 4, 2) := by decide +kernel
theorem d_M_growth_75 : decode prog_11_method_36_code 75 = .ok (.iload 5, 2) := by decide +kernel
theorem d_M_growth_77 : decode prog_11_method_36_code 77 = .ok (.iload 6, 2) := by decide +kernel
theorem d_M_growth_79 : decode prog_11_method_36_code 79 = .ok (.isub, 1) := by decide +kernel
theorem d_M_growth_80 : decode prog_11_method_36_code 80 = .ok (.istore 5, 2) := by decide +kernel
theorem d_M_growth_82 : decode prog_11_method_36_code 82 = .ok (.goto (-69), 3) := by decide +kernel
theorem d_M_growth_85 : decode prog_11_method_36_code 85 = .ok (.iload_n 3, 1) := by decide +kernel
theorem d_M_growth_86 : decode prog_11_method_36_code 86 = .ok (.ifCond .le 11, 3) := by decide +kernel
theorem d_M_growth_89 : decode prog_11_method_36_code 89 = .ok (.aload_n 0, 1) := by decide +kernel
theorem d_M_growth_90 : decode prog_11_method_36_code 90 = .ok (.iload_n 3, 1) := by decide +kernel
theorem d_M_growth_91 : decode prog_11_method_36_code 91 = .ok (.iload 4, 2) := by decide +kernel
theorem d_M_growth_93 : decode prog_11_method_36_code 93 = .ok (.iconst 1, 1) := by decide +kernel
theorem d_M_growth_94 : decode prog_11_method_36_code 94 = .ok (.invokevirtual 161, 3) := by decide +kernel
theorem d_M_growth_97 : decode prog_11_method_36_code 97 = .ok (.iload_n 3, 1) := by decide +kernel
theorem d_M_growth_98 : decode prog_11_method_36_code 98 = .ok (.ifCond .ne 7, 3) := by decide +kernel
theorem d_M_growth_101 : decode prog_11_method_36_code 101 = .ok (.iconst 1, 1) := by decide +kernel
theorem d_M_growth_102 : decode prog_11_method_36_code 102 = .ok (.goto 4, 3) := by decide +kernel
theorem d_M_growth_105 : decode prog_11_method_36_code 105 = .ok (.iconst 0, 1) := by decide +kernel
theorem d_M_growth_106 : decode prog_11_method_36_code 106 = .ok (.ireturn, 1) := by decide +kernel
theorem d_M_proof_0 : decode prog_11_method_45_code 0 = .ok (.aload_n 0, 1) := by decide +kernel
theorem d_M_proof_1 : decode prog_11_method_45_code 1 = .ok (.iconst 0, 1) := by decide +kernel
theorem d_M_proof_2 : decode prog_11_method_45_code 2 = .ok (.putfield 73, 3) := by decide +kernel
theorem d_M_proof_5 : decode prog_11_method_45_code 5 = .ok (.iload_n 1, 1) := by decide +kernel
theorem d_M_proof_6 : decode prog_11_method_45_code 6 = .ok (.iconst 0, 1) := by decide +kernel
theorem d_M_proof_7 : decode prog_11_method_45_code 7 = .ok (.aload_n 0, 1) := by decide +kernel
theorem d_M_proof_8 : decode prog_11_method_45_code 8 = .ok (.getfield 165, 3) := by decide +kernel
theorem d_M_proof_11 : decode prog_11_method_45_code 11 = .ok (.iconst 1, 1) := by decide +kernel
theorem d_M_proof_12 : decode prog_11_method_45_code 12 = .ok (.isub, 1) := by decide +kernel
theorem d_M_proof_13 : decode prog_11_method_45_code 13 = .ok (.invokestatic 99, 3) := by decide +kernel
theorem d_M_proof_16 : decode prog_11_method_45_code 16 = .ok (.ifCond .eq 7, 3) := by decide +kernel
theorem d_M_proof_19 : decode prog_11_method_45_code 19 = .ok (.iconst (-1), 1) := by decide +kernel
theorem d_M_proof_20 : decode prog_11_method_45_code 20 = .ok (.goto 9, 3) := by decide +kernel
theorem d_M_proof_23 : decode prog_11_method_45_code 23 = .ok (.aload_n 0, 1) := by decide +kernel
theorem d_M_proof_24 : decode prog_11_method_45_code 24 = .ok (.getfield 54, 3) := by decide +kernel
theorem d_M_proof_27 : decode prog_11_method_45_code 27 = .ok (.iload_n 1, 1) := by decide +kernel
theorem d_M_proof_28 : decode prog_11_method_45_code 28 = .ok (.iaload, 1) := by decide +kernel
theorem d_M_proof_29 : decode prog_11_method_45_code 29 = .ok (.ireturn, 1) := by decide +kernel
theorem d_M_take_0 : decode prog_11_method_46_code 0 = .ok (.aload_n 0, 1) := by decide +kernel
theorem d_M_take_1 : decode prog_11_method_46_code 1 = .ok (.iconst 0, 1) := by decide +kernel
theorem d_M_take_2 : decode prog_11_method_46_code 2 = .ok (.putfield 73, 3) := by decide +kernel
theorem d_M_take_5 : decode prog_11_method_46_code 5 = .ok (.iload_n 2, 1) := by decide +kernel
theorem d_M_take_6 : decode prog_11_method_46_code 6 = .ok (.iconst 1, 1) := by decide +kernel
theorem d_M_take_7 : decode prog_11_method_46_code 7 = .ok (.iconst 4, 1) := by decide +kernel
theorem d_M_take_8 : decode prog_11_method_46_code 8 = .ok (.invokestatic 99, 3) := by decide +kernel
theorem d_M_take_11 : decode prog_11_method_46_code 11 = .ok (.ifCond .ne 15, 3) := by decide +kernel
theorem d_M_take_14 : decode prog_11_method_46_code 14 = .ok (.aload_n 0, 1) := by decide +kernel
theorem d_M_take_15 : decode prog_11_method_46_code 15 = .ok (.getfield 194, 3) := by decide +kernel
theorem d_M_take_18 : decode prog_11_method_46_code 18 = .ok (.iload_n 2, 1) := by decide +kernel
theorem d_M_take_19 : decode prog_11_method_46_code 19 = .ok (.iadd, 1) := by decide +kernel
theorem d_M_take_20 : decode prog_11_method_46_code 20 = .ok (.sipush 400, 3) := by decide +kernel
theorem d_M_take_23 : decode prog_11_method_46_code 23 = .ok (.if_icmp .le 5, 3) := by decide +kernel
theorem d_M_take_26 : decode prog_11_method_46_code 26 = .ok (.iconst 0, 1) := by decide +kernel
theorem d_M_take_27 : decode prog_11_method_46_code 27 = .ok (.ireturn, 1) := by decide +kernel
theorem d_M_take_28 : decode prog_11_method_46_code 28 = .ok (.iload_n 2, 1) := by decide +kernel
theorem d_M_take_29 : decode prog_11_method_46_code 29 = .ok (.iconst 1, 1) := by decide +kernel
theorem d_M_take_30 : decode prog_11_method_46_code 30 = .ok (.isub, 1) := by decide +kernel
theorem d_M_take_31 : decode prog_11_method_46_code 31 = .ok (.istore_n 3, 1) := by decide +kernel
theorem d_M_take_32 : decode prog_11_method_46_code 32 = .ok (.iload_n 3, 1) := by decide +kernel
theorem d_M_take_33 : decode prog_11_method_46_code 33 = .ok (.ifCond .lt 38, 3) := by decide +kernel
theorem d_M_take_36 : decode prog_11_method_46_code 36 = .ok (.aload_n 0, 1) := by decide +kernel
theorem d_M_take_37 : decode prog_11_method_46_code 37 = .ok (.getfield 57, 3) := by decide +kernel
theorem d_M_take_40 : decode prog_11_method_46_code 40 = .ok (.aload_n 0, 1) := by decide +kernel
theorem d_M_take_41 : decode prog_11_method_46_code 41 = .ok (.getfield 194, 3) := by decide +kernel
theorem d_M_take_44 : decode prog_11_method_46_code 44 = .ok (.iload_n 1, 1) := by decide +kernel
theorem d_M_take_45 : decode prog_11_method_46_code 45 = .ok (.bipush 8, 2) := by decide +kernel
theorem d_M_take_47 : decode prog_11_method_46_code 47 = .ok (.iload_n 3, 1) := by decide +kernel
theorem d_M_take_48 : decode prog_11_method_46_code 48 = .ok (.imul, 1) := by decide +kernel
theorem d_M_take_49 : decode prog_11_method_46_code 49 = .ok (.ishr, 1) := by decide +kernel
theorem d_M_take_50 : decode prog_11_method_46_code 50 = .ok (.sipush 255, 3) := by decide +kernel
theorem d_M_take_53 : decode prog_11_method_46_code 53 = .ok (.iand, 1) := by decide +kernel
theorem d_M_take_54 : decode prog_11_method_46_code 54 = .ok (.iastore, 1) := by decide +kernel
theorem d_M_take_55 : decode prog_11_method_46_code 55 = .ok (.aload_n 0, 1) := by decide +kernel
theorem d_M_take_56 : decode prog_11_method_46_code 56 = .ok (.dup, 1) := by decide +kernel
theorem d_M_take_57 : decode prog_11_method_46_code 57 = .ok (.getfield 194, 3) := by decide +kernel
theorem d_M_take_60 : decode prog_11_method_46_code 60 = .ok (.iconst 1, 1) := by decide +kernel
theorem d_M_take_61 : decode prog_11_method_46_code 61 = .ok (.iadd, 1) := by decide +kernel
theorem d_M_take_62 : decode prog_11_method_46_code 62 = .ok (.putfield 194, 3) := by decide +kernel
theorem d_M_take_65 : decode prog_11_method_46_code 65 = .ok (.iinc 3 (-1), 3) := by decide +kernel
theorem d_M_take_68 : decode prog_11_method_46_code 68 = .ok (.goto (-36), 3) := by decide +kernel
theorem d_M_take_71 : decode prog_11_method_46_code 71 = .ok (.iconst 1, 1) := by decide +kernel
theorem d_M_take_72 : decode prog_11_method_46_code 72 = .ok (.ireturn, 1) := by decide +kernel
theorem d_M_carry_0 : decode prog_11_method_47_code 0 = .ok (.aload_n 0, 1) := by decide +kernel
theorem d_M_carry_1 : decode prog_11_method_47_code 1 = .ok (.iconst 0, 1) := by decide +kernel
theorem d_M_carry_2 : decode prog_11_method_47_code 2 = .ok (.putfield 73, 3) := by decide +kernel
theorem d_M_carry_5 : decode prog_11_method_47_code 5 = .ok (.iconst 0, 1) := by decide +kernel
theorem d_M_carry_6 : decode prog_11_method_47_code 6 = .ok (.istore_n 3, 1) := by decide +kernel
theorem d_M_carry_7 : decode prog_11_method_47_code 7 = .ok (.iload_n 3, 1) := by decide +kernel
theorem d_M_carry_8 : decode prog_11_method_47_code 8 = .ok (.aload_n 0, 1) := by decide +kernel
theorem d_M_carry_9 : decode prog_11_method_47_code 9 = .ok (.getfield 165, 3) := by decide +kernel
theorem d_M_carry_12 : decode prog_11_method_47_code 12 = .ok (.if_icmp .ge 41, 3) := by decide +kernel
theorem d_M_carry_15 : decode prog_11_method_47_code 15 = .ok (.aload_n 0, 1) := by decide +kernel
theorem d_M_carry_16 : decode prog_11_method_47_code 16 = .ok (.getfield 57, 3) := by decide +kernel
theorem d_M_carry_19 : decode prog_11_method_47_code 19 = .ok (.iload_n 3, 1) := by decide +kernel
theorem d_M_carry_20 : decode prog_11_method_47_code 20 = .ok (.iload_n 3, 1) := by decide +kernel
theorem d_M_carry_21 : decode prog_11_method_47_code 21 = .ok (.iload_n 1, 1) := by decide +kernel
theorem d_M_carry_22 : decode prog_11_method_47_code 22 = .ok (.if_icmp .ne 18, 3) := by decide +kernel
theorem d_M_carry_25 : decode prog_11_method_47_code 25 = .ok (.aload_n 0, 1) := by decide +kernel
theorem d_M_carry_26 : decode prog_11_method_47_code 26 = .ok (.getfield 54, 3) := by decide +kernel
theorem d_M_carry_29 : decode prog_11_method_47_code 29 = .ok (.iload_n 3, 1) := by decide +kernel
theorem d_M_carry_30 : decode prog_11_method_47_code 30 = .ok (.iaload, 1) := by decide +kernel
theorem d_M_carry_31 : decode prog_11_method_47_code 31 = .ok (.iload_n 2, 1) := by decide +kernel
theorem d_M_carry_32 : decode prog_11_method_47_code 32 = .ok (.sipush 255, 3) := by decide +kernel
theorem d_M_carry_35 : decode prog_11_method_47_code 35 = .ok (.iand, 1) := by decide +kernel
theorem d_M_carry_36 : decode prog_11_method_47_code 36 = .ok (.ixor, 1) := by decide +kernel
theorem d_M_carry_37 : decode prog_11_method_47_code 37 = .ok (.goto 9, 3) := by decide +kernel
theorem d_M_carry_40 : decode prog_11_method_47_code 40 = .ok (.aload_n 0, 1) := by decide +kernel
theorem d_M_carry_41 : decode prog_11_method_47_code 41 = .ok (.getfield 54, 3) := by decide +kernel
theorem d_M_carry_44 : decode prog_11_method_47_code 44 = .ok (.iload_n 3, 1) := by decide +kernel
theorem d_M_carry_45 : decode prog_11_method_47_code 45 = .ok (.iaload, 1) := by decide +kernel
theorem d_M_carry_46 : decode prog_11_method_47_code 46 = .ok (.iastore, 1) := by decide +kernel
theorem d_M_carry_47 : decode prog_11_method_47_code 47 = .ok (.iinc 3 1, 3) := by decide +kernel
theorem d_M_carry_50 : decode prog_11_method_47_code 50 = .ok (.goto (-43), 3) := by decide +kernel
theorem d_M_carry_53 : decode prog_11_method_47_code 53 = .ok (.aload_n 0, 1) := by decide +kernel
theorem d_M_carry_54 : decode prog_11_method_47_code 54 = .ok (.aload_n 0, 1) := by decide +kernel
theorem d_M_carry_55 : decode prog_11_method_47_code 55 = .ok (.getfield 165, 3) := by decide +kernel
theorem d_M_carry_58 : decode prog_11_method_47_code 58 = .ok (.putfield 194, 3) := by decide +kernel
theorem d_M_carry_61 : decode prog_11_method_47_code 61 = .ok (.aload_n 0, 1) := by decide +kernel
theorem d_M_carry_62 : decode prog_11_method_47_code 62 = .ok (.getfield 194, 3) := by decide +kernel
theorem d_M_carry_65 : decode prog_11_method_47_code 65 = .ok (.ireturn, 1) := by decide +kernel
theorem d_M_verify_0 : decode prog_11_method_54_code 0 = .ok (.iload_n 2, 1) := by decide +kernel
theorem d_M_verify_1 : decode prog_11_method_54_code 1 = .ok (.iconst 1, 1) := by decide +kernel
theorem d_M_verify_2 : decode prog_11_method_54_code 2 = .ok (.bipush 16, 2) := by decide +kernel
theorem d_M_verify_4 : decode prog_11_method_54_code 4 = .ok (.invokestatic 99, 3) := by decide +kernel
theorem d_M_verify_7 : decode prog_11_method_54_code 7 = .ok (.ifCond .ne 25, 3) := by decide +kernel
theorem d_M_verify_10 : decode prog_11_method_54_code 10 = .ok (.iload_n 3, 1) := by decide +kernel
theorem d_M_verify_11 : decode prog_11_method_54_code 11 = .ok (.iconst 0, 1) := by decide +kernel
theorem d_M_verify_12 : decode prog_11_method_54_code 12 = .ok (.iload_n 2, 1) := by decide +kernel
theorem d_M_verify_13 : decode prog_11_method_54_code 13 = .ok (.iconst 1, 1) := by decide +kernel
theorem d_M_verify_14 : decode prog_11_method_54_code 14 = .ok (.isub, 1) := by decide +kernel
theorem d_M_verify_15 : decode prog_11_method_54_code 15 = .ok (.invokestatic 99, 3) := by decide +kernel
theorem d_M_verify_18 : decode prog_11_method_54_code 18 = .ok (.ifCond .ne 14, 3) := by decide +kernel
theorem d_M_verify_21 : decode prog_11_method_54_code 21 = .ok (.iload 4, 2) := by decide +kernel
theorem d_M_verify_23 : decode prog_11_method_54_code 23 = .ok (.iconst 0, 1) := by decide +kernel
theorem d_M_verify_24 : decode prog_11_method_54_code 24 = .ok (.bipush 47, 2) := by decide +kernel
theorem d_M_verify_26 : decode prog_11_method_54_code 26 = .ok (.invokestatic 99, 3) := by decide +kernel
theorem d_M_verify_29 : decode prog_11_method_54_code 29 = .ok (.ifCond .eq 9, 3) := by decide +kernel
theorem d_M_verify_32 : decode prog_11_method_54_code 32 = .ok (.aload_n 0, 1) := by decide +kernel
theorem d_M_verify_33 : decode prog_11_method_54_code 33 = .ok (.iconst 1, 1) := by decide +kernel
theorem d_M_verify_34 : decode prog_11_method_54_code 34 = .ok (.invokevirtual 130, 3) := by decide +kernel
theorem d_M_verify_37 : decode prog_11_method_54_code 37 = .ok (.ireturn, 1) := by decide +kernel
theorem d_M_verify_38 : decode prog_11_method_54_code 38 = .ok (.aload_n 0, 1) := by decide +kernel
theorem d_M_verify_39 : decode prog_11_method_54_code 39 = .ok (.iconst 0, 1) := by decide +kernel
theorem d_M_verify_40 : decode prog_11_method_54_code 40 = .ok (.putfield 73, 3) := by decide +kernel
theorem d_M_verify_43 : decode prog_11_method_54_code 43 = .ok (.aload_n 0, 1) := by decide +kernel
theorem d_M_verify_44 : decode prog_11_method_54_code 44 = .ok (.iload_n 2, 1) := by decide +kernel
theorem d_M_verify_45 : decode prog_11_method_54_code 45 = .ok (.iload_n 3, 1) := by decide +kernel
theorem d_M_verify_46 : decode prog_11_method_54_code 46 = .ok (.invokevirtual 175, 3) := by decide +kernel
theorem d_M_verify_49 : decode prog_11_method_54_code 49 = .ok (.aload_n 0, 1) := by decide +kernel
theorem d_M_verify_50 : decode prog_11_method_54_code 50 = .ok (.invokevirtual 217, 3) := by decide +kernel
theorem d_M_verify_53 : decode prog_11_method_54_code 53 = .ok (.aload_n 0, 1) := by decide +kernel
theorem d_M_verify_54 : decode prog_11_method_54_code 54 = .ok (.getfield 200, 3) := by decide +kernel
theorem d_M_verify_57 : decode prog_11_method_54_code 57 = .ok (.ifCond .eq 12, 3) := by decide +kernel
theorem d_M_verify_60 : decode prog_11_method_54_code 60 = .ok (.aload_n 0, 1) := by decide +kernel
theorem d_M_verify_61 : decode prog_11_method_54_code 61 = .ok (.iload 4, 2) := by decide +kernel
theorem d_M_verify_63 : decode prog_11_method_54_code 63 = .ok (.invokevirtual 220, 3) := by decide +kernel
theorem d_M_verify_66 : decode prog_11_method_54_code 66 = .ok (.goto 4, 3) := by decide +kernel
theorem d_M_verify_69 : decode prog_11_method_54_code 69 = .ok (.iconst 0, 1) := by decide +kernel
theorem d_M_verify_70 : decode prog_11_method_54_code 70 = .ok (.istore 5, 2) := by decide +kernel
theorem d_M_verify_72 : decode prog_11_method_54_code 72 = .ok (.aload_n 0, 1) := by decide +kernel
theorem d_M_verify_73 : decode prog_11_method_54_code 73 = .ok (.getfield 200, 3) := by decide +kernel
theorem d_M_verify_76 : decode prog_11_method_54_code 76 = .ok (.ifCond .eq 33, 3) := by decide +kernel
theorem d_M_verify_79 : decode prog_11_method_54_code 79 = .ok (.aload_n 0, 1) := by decide +kernel
theorem d_M_verify_80 : decode prog_11_method_54_code 80 = .ok (.getfield 197, 3) := by decide +kernel
theorem d_M_verify_83 : decode prog_11_method_54_code 83 = .ok (.aload_n 0, 1) := by decide +kernel
theorem d_M_verify_84 : decode prog_11_method_54_code 84 = .ok (.getfield 194, 3) := by decide +kernel
theorem d_M_verify_87 : decode prog_11_method_54_code 87 = .ok (.if_icmp .ne 22, 3) := by decide +kernel
theorem d_M_verify_90 : decode prog_11_method_54_code 90 = .ok (.aload_n 0, 1) := by decide +kernel
theorem d_M_verify_91 : decode prog_11_method_54_code 91 = .ok (.iload_n 3, 1) := by decide +kernel
theorem d_M_verify_92 : decode prog_11_method_54_code 92 = .ok (.iload 5, 2) := by decide +kernel
theorem d_M_verify_94 : decode prog_11_method_54_code 94 = .ok (.invokestatic 146, 3) := by decide +kernel
theorem d_M_verify_97 : decode prog_11_method_54_code 97 = .ok (.iconst 0, 1) := by decide +kernel
theorem d_M_verify_98 : decode prog_11_method_54_code 98 = .ok (.invokevirtual 223, 3) := by decide +kernel
theorem d_M_verify_101 : decode prog_11_method_54_code 101 = .ok (.iload_n 1, 1) := by decide +kernel
theorem d_M_verify_102 : decode prog_11_method_54_code 102 = .ok (.if_icmp .ne 7, 3) := by decide +kernel
theorem d_M_verify_105 : decode prog_11_method_54_code 105 = .ok (.iconst 1, 1) := by decide +kernel
theorem d_M_verify_106 : decode prog_11_method_54_code 106 = .ok (.goto 4, 3) := by decide +kernel
theorem d_M_verify_109 : decode prog_11_method_54_code 109 = .ok (.iconst 0, 1) := by decide +kernel
theorem d_M_verify_110 : decode prog_11_method_54_code 110 = .ok (.istore 6, 2) := by decide +kernel
theorem d_M_verify_112 : decode prog_11_method_54_code 112 = .ok (.aload_n 0, 1) := by decide +kernel
theorem d_M_verify_113 : decode prog_11_method_54_code 113 = .ok (.iconst 0, 1) := by decide +kernel
theorem d_M_verify_114 : decode prog_11_method_54_code 114 = .ok (.putfield 194, 3) := by decide +kernel
theorem d_M_verify_117 : decode prog_11_method_54_code 117 = .ok (.iload 6, 2) := by decide +kernel
theorem d_M_verify_119 : decode prog_11_method_54_code 119 = .ok (.ifCond .ne 5, 3) := by decide +kernel
theorem d_M_verify_122 : decode prog_11_method_54_code 122 = .ok (.iconst 0, 1) := by decide +kernel
theorem d_M_verify_123 : decode prog_11_method_54_code 123 = .ok (.ireturn, 1) := by decide +kernel
theorem d_M_verify_124 : decode prog_11_method_54_code 124 = .ok (.iconst 0, 1) := by decide +kernel
theorem d_M_verify_125 : decode prog_11_method_54_code 125 = .ok (.istore 7, 2) := by decide +kernel
theorem d_M_verify_127 : decode prog_11_method_54_code 127 = .ok (.iload 7, 2) := by decide +kernel
theorem d_M_verify_129 : decode prog_11_method_54_code 129 = .ok (.aload_n 0, 1) := by decide +kernel
theorem d_M_verify_130 : decode prog_11_method_54_code 130 = .ok (.getfield 211, 3) := by decide +kernel
theorem d_M_verify_133 : decode prog_11_method_54_code 133 = .ok (.if_icmp .ge 34, 3) := by decide +kernel
theorem d_M_verify_136 : decode prog_11_method_54_code 136 = .ok (.aload_n 0, 1) := by decide +kernel
theorem d_M_verify_137 : decode prog_11_method_54_code 137 = .ok (.getfield 63, 3) := by decide +kernel
theorem d_M_verify_140 : decode prog_11_method_54_code 140 = .ok (.iload 7, 2) := by decide +kernel
theorem d_M_verify_142 : decode prog_11_method_54_code 142 = .ok (.iaload, 1) := by decide +kernel
theorem d_M_verify_143 : decode prog_11_method_54_code 143 = .ok (.iload 4, 2) := by decide +kernel
theorem d_M_verify_145 : decode prog_11_method_54_code 145 = .ok (.if_icmp .ne 16, 3) := by decide +kernel
theorem d_M_verify_148 : decode prog_11_method_54_code 148 = .ok (.aload_n 0, 1) := by decide +kernel
theorem d_M_verify_149 : decode prog_11_method_54_code 149 = .ok (.aload_n 0, 1) := by decide +kernel
theorem d_M_verify_150 : decode prog_11_method_54_code 150 = .ok (.getfield 66, 3) := by decide +kernel
theorem d_M_verify_153 : decode prog_11_method_54_code 153 = .ok (.iload 7, 2) := by decide +kernel
theorem d_M_verify_155 : decode prog_11_method_54_code 155 = .ok (.iaload, 1) := by decide +kernel
theorem d_M_verify_156 : decode prog_11_method_54_code 156 = .ok (.putfield 226, 3) := by decide +kernel
theorem d_M_verify_159 : decode prog_11_method_54_code 159 = .ok (.iconst 2, 1) := by decide +kernel
theorem d_M_verify_160 : decode prog_11_method_54_code 160 = .ok (.ireturn, 1) := by decide +kernel
theorem d_M_verify_161 : decode prog_11_method_54_code 161 = .ok (.iinc 7 1, 3) := by decide +kernel
theorem d_M_verify_164 : decode prog_11_method_54_code 164 = .ok (.goto (-37), 3) := by decide +kernel
theorem d_M_verify_167 : decode prog_11_method_54_code 167 = .ok (.iconst 1, 1) := by decide +kernel
theorem d_M_verify_168 : decode prog_11_method_54_code 168 = .ok (.ireturn, 1) := by decide +kernel
theorem d_M_inBeside_0 : decode prog_11_method_50_code 0 = .ok (.aload_n 0, 1) := by decide +kernel
theorem d_M_inBeside_1 : decode prog_11_method_50_code 1 = .ok (.iconst 0, 1) := by decide +kernel
theorem d_M_inBeside_2 : decode prog_11_method_50_code 2 = .ok (.putfield 197, 3) := by decide +kernel
theorem d_M_inBeside_5 : decode prog_11_method_50_code 5 = .ok (.aload_n 0, 1) := by decide +kernel
theorem d_M_inBeside_6 : decode prog_11_method_50_code 6 = .ok (.iconst 1, 1) := by decide +kernel
theorem d_M_inBeside_7 : decode prog_11_method_50_code 7 = .ok (.putfield 200, 3) := by decide +kernel
theorem d_M_inBeside_10 : decode prog_11_method_50_code 10 = .ok (.aload_n 0, 1) := by decide +kernel
theorem d_M_inBeside_11 : decode prog_11_method_50_code 11 = .ok (.aload_n 0, 1) := by decide +kernel
theorem d_M_inBeside_12 : decode prog_11_method_50_code 12 = .ok (.getfield 155, 3) := by decide +kernel
theorem d_M_inBeside_15 : decode prog_11_method_50_code 15 = .ok (.aload_n 0, 1) := by decide +kernel
theorem d_M_inBeside_16 : decode prog_11_method_50_code 16 = .ok (.getfield 155, 3) := by decide +kernel
theorem d_M_inBeside_19 : decode prog_11_method_50_code 19 = .ok (.invokevirtual 204, 3) := by decide +kernel
theorem d_M_inBeside_22 : decode prog_11_method_50_code 22 = .ok (.istore_n 1, 1) := by decide +kernel
theorem d_M_inBeside_23 : decode prog_11_method_50_code 23 = .ok (.iconst 0, 1) := by decide +kernel
theorem d_M_inBeside_24 : decode prog_11_method_50_code 24 = .ok (.istore_n 2, 1) := by decide +kernel
theorem d_M_inBeside_25 : decode prog_11_method_50_code 25 = .ok (.aload_n 0, 1) := by decide +kernel
theorem d_M_inBeside_26 : decode prog_11_method_50_code 26 = .ok (.getfield 200, 3) := by decide +kernel
theorem d_M_inBeside_29 : decode prog_11_method_50_code 29 = .ok (.ifCond .eq 24, 3) := by decide +kernel
theorem d_M_inBeside_32 : decode prog_11_method_50_code 32 = .ok (.iload_n 2, 1) := by decide +kernel
theorem d_M_inBeside_33 : decode prog_11_method_50_code 33 = .ok (.iload_n 1, 1) := by decide +kernel
theorem d_M_inBeside_34 : decode prog_11_method_50_code 34 = .ok (.if_icmp .ge 19, 3) := by decide +kernel
theorem d_M_inBeside_37 : decode prog_11_method_50_code 37 = .ok (.aload_n 0, 1) := by decide +kernel
theorem d_M_inBeside_38 : decode prog_11_method_50_code 38 = .ok (.getfield 60, 3) := by decide +kernel
theorem d_M_inBeside_41 : decode prog_11_method_50_code 41 = .ok (.iload_n 2, 1) := by decide +kernel
theorem d_M_inBeside_42 : decode prog_11_method_50_code 42 = .ok (.aload_n 0, 1) := by decide +kernel
theorem d_M_inBeside_43 : decode prog_11_method_50_code 43 = .ok (.invokevirtual 207, 3) := by decide +kernel
theorem d_M_inBeside_46 : decode prog_11_method_50_code 46 = .ok (.iastore, 1) := by decide +kernel
theorem d_M_inBeside_47 : decode prog_11_method_50_code 47 = .ok (.iinc 2 1, 3) := by decide +kernel
theorem d_M_inBeside_50 : decode prog_11_method_50_code 50 = .ok (.goto (-25), 3) := by decide +kernel
theorem d_M_inBeside_53 : decode prog_11_method_50_code 53 = .ok (.return_, 1) := by decide +kernel
theorem d_M_in_0 : decode prog_11_method_48_code 0 = .ok (.aload_n 0, 1) := by decide +kernel
theorem d_M_in_1 : decode prog_11_method_48_code 1 = .ok (.getfield 197, 3) := by decide +kernel
theorem d_M_in_4 : decode prog_11_method_48_code 4 = .ok (.aload_n 0, 1) := by decide +kernel
theorem d_M_in_5 : decode prog_11_method_48_code 5 = .ok (.getfield 194, 3) := by decide +kernel
theorem d_M_in_8 : decode prog_11_method_48_code 8 = .ok (.if_icmp .ge 15, 3) := by decide +kernel
theorem d_M_in_11 : decode prog_11_method_48_code 11 = .ok (.aload_n 0, 1) := by decide +kernel
theorem d_M_in_12 : decode prog_11_method_48_code 12 = .ok (.getfield 57, 3) := by decide +kernel
theorem d_M_in_15 : decode prog_11_method_48_code 15 = .ok (.aload_n 0, 1) := by decide +kernel
theorem d_M_in_16 : decode prog_11_method_48_code 16 = .ok (.getfield 197, 3) := by decide +kernel
theorem d_M_in_19 : decode prog_11_method_48_code 19 = .ok (.iaload, 1) := by decide +kernel
theorem d_M_in_20 : decode prog_11_method_48_code 20 = .ok (.goto 4, 3) := by decide +kernel
theorem d_M_in_23 : decode prog_11_method_48_code 23 = .ok (.iconst (-1), 1) := by decide +kernel
theorem d_M_in_24 : decode prog_11_method_48_code 24 = .ok (.istore_n 3, 1) := by decide +kernel
theorem d_M_in_25 : decode prog_11_method_48_code 25 = .ok (.aload_n 0, 1) := by decide +kernel
theorem d_M_in_26 : decode prog_11_method_48_code 26 = .ok (.dup, 1) := by decide +kernel
theorem d_M_in_27 : decode prog_11_method_48_code 27 = .ok (.getfield 197, 3) := by decide +kernel
theorem d_M_in_30 : decode prog_11_method_48_code 30 = .ok (.iconst 1, 1) := by decide +kernel
theorem d_M_in_31 : decode prog_11_method_48_code 31 = .ok (.iadd, 1) := by decide +kernel
theorem d_M_in_32 : decode prog_11_method_48_code 32 = .ok (.putfield 197, 3) := by decide +kernel
theorem d_M_in_35 : decode prog_11_method_48_code 35 = .ok (.aload_n 0, 1) := by decide +kernel
theorem d_M_in_36 : decode prog_11_method_48_code 36 = .ok (.aload_n 0, 1) := by decide +kernel
theorem d_M_in_37 : decode prog_11_method_48_code 37 = .ok (.getfield 200, 3) := by decide +kernel
theorem d_M_in_40 : decode prog_11_method_48_code 40 = .ok (.ifCond .eq 16, 3) := by decide +kernel
theorem d_M_in_43 : decode prog_11_method_48_code 43 = .ok (.iload_n 3, 1) := by decide +kernel
theorem d_M_in_44 : decode prog_11_method_48_code 44 = .ok (.iload_n 1, 1) := by decide +kernel
theorem d_M_in_45 : decode prog_11_method_48_code 45 = .ok (.iload_n 2, 1) := by decide +kernel
theorem d_M_in_46 : decode prog_11_method_48_code 46 = .ok (.invokestatic 99, 3) := by decide +kernel
theorem d_M_in_49 : decode prog_11_method_48_code 49 = .ok (.ifCond .ne 7, 3) := by decide +kernel
theorem d_M_in_52 : decode prog_11_method_48_code 52 = .ok (.iconst 1, 1) := by decide +kernel
theorem d_M_in_53 : decode prog_11_method_48_code 53 = .ok (.goto 4, 3) := by decide +kernel
theorem d_M_in_56 : decode prog_11_method_48_code 56 = .ok (.iconst 0, 1) := by decide +kernel
theorem d_M_in_57 : decode prog_11_method_48_code 57 = .ok (.putfield 200, 3) := by decide +kernel
theorem d_M_in_60 : decode prog_11_method_48_code 60 = .ok (.iload_n 3, 1) := by decide +kernel
theorem d_M_in_61 : decode prog_11_method_48_code 61 = .ok (.ireturn, 1) := by decide +kernel
theorem d_M_inInt_0 : decode prog_11_method_49_code 0 = .ok (.iconst 0, 1) := by decide +kernel
theorem d_M_inInt_1 : decode prog_11_method_49_code 1 = .ok (.istore_n 1, 1) := by decide +kernel
theorem d_M_inInt_2 : decode prog_11_method_49_code 2 = .ok (.iconst 0, 1) := by decide +kernel
theorem d_M_inInt_3 : decode prog_11_method_49_code 3 = .ok (.istore_n 2, 1) := by decide +kernel
theorem d_M_inInt_4 : decode prog_11_method_49_code 4 = .ok (.iload_n 2, 1) := by decide +kernel
theorem d_M_inInt_5 : decode prog_11_method_49_code 5 = .ok (.iconst 4, 1) := by decide +kernel
theorem d_M_inInt_6 : decode prog_11_method_49_code 6 = .ok (.if_icmp .ge 27, 3) := by decide +kernel
theorem d_M_inInt_9 : decode prog_11_method_49_code 9 = .ok (.iload_n 1, 1) := by decide +kernel
theorem d_M_inInt_10 : decode prog_11_method_49_code 10 = .ok (.bipush 8, 2) := by decide +kernel
theorem d_M_inInt_12 : decode prog_11_method_49_code 12 = .ok (.ishl, 1) := by decide +kernel
theorem d_M_inInt_13 : decode prog_11_method_49_code 13 = .ok (.aload_n 0, 1) := by decide +kernel
theorem d_M_inInt_14 : decode prog_11_method_49_code 14 = .ok (.iconst 0, 1) := by decide +kernel
theorem d_M_inInt_15 : decode prog_11_method_49_code 15 = .ok (.sipush 255, 3) := by decide +kernel
theorem d_M_inInt_18 : decode prog_11_method_49_code 18 = .ok (.invokevirtual 204, 3) := by decide +kernel
theorem d_M_inInt_21 : decode prog_11_method_49_code 21 = .ok (.sipush 255, 3) := by decide +kernel
theorem d_M_inInt_24 : decode prog_11_method_49_code 24 = .ok (.iand, 1) := by decide +kernel
theorem d_M_inInt_25 : decode prog_11_method_49_code 25 = .ok (.ior, 1) := by decide +kernel
theorem d_M_inInt_26 : decode prog_11_method_49_code 26 = .ok (.istore_n 1, 1) := by decide +kernel
theorem d_M_inInt_27 : decode prog_11_method_49_code 27 = .ok (.iinc 2 1, 3) := by decide +kernel
theorem d_M_inInt_30 : decode prog_11_method_49_code 30 = .ok (.goto (-26), 3) := by decide +kernel
theorem d_M_inInt_33 : decode prog_11_method_49_code 33 = .ok (.iload_n 1, 1) := by decide +kernel
theorem d_M_inInt_34 : decode prog_11_method_49_code 34 = .ok (.ireturn, 1) := by decide +kernel
theorem d_M_inLevels_0 : decode prog_11_method_52_code 0 = .ok (.aload_n 0, 1) := by decide +kernel
theorem d_M_inLevels_1 : decode prog_11_method_52_code 1 = .ok (.iconst 0, 1) := by decide +kernel
theorem d_M_inLevels_2 : decode prog_11_method_52_code 2 = .ok (.bipush 6, 2) := by decide +kernel
theorem d_M_inLevels_4 : decode prog_11_method_52_code 4 = .ok (.invokevirtual 204, 3) := by decide +kernel
theorem d_M_inLevels_7 : decode prog_11_method_52_code 7 = .ok (.istore_n 2, 1) := by decide +kernel
theorem d_M_inLevels_8 : decode prog_11_method_52_code 8 = .ok (.iconst 0, 1) := by decide +kernel
theorem d_M_inLevels_9 : decode prog_11_method_52_code 9 = .ok (.istore_n 3, 1) := by decide +kernel
theorem d_M_inLevels_10 : decode prog_11_method_52_code 10 = .ok (.iconst 0, 1) := by decide +kernel
theorem d_M_inLevels_11 : decode prog_11_method_52_code 11 = .ok (.istore 4, 2) := by decide +kernel
theorem d_M_inLevels_13 : decode prog_11_method_52_code 13 = .ok (.iconst 0, 1) := by decide +kernel
theorem d_M_inLevels_14 : decode prog_11_method_52_code 14 = .ok (.istore 5, 2) := by decide +kernel
theorem d_M_inLevels_16 : decode prog_11_method_52_code 16 = .ok (.aload_n 0, 1) := by decide +kernel
theorem d_M_inLevels_17 : decode prog_11_method_52_code 17 = .ok (.iconst 0, 1) := by decide +kernel
theorem d_M_inLevels_18 : decode prog_11_method_52_code 18 = .ok (.putfield 211, 3) := by decide +kernel
theorem d_M_inLevels_21 : decode prog_11_method_52_code 21 = .ok (.iload_n 2, 1) := by decide +kernel
theorem d_M_inLevels_22 : decode prog_11_method_52_code 22 = .ok (.iconst 1, 1) := by decide +kernel
theorem d_M_inLevels_23 : decode prog_11_method_52_code 23 = .ok (.isub, 1) := by decide +kernel
theorem d_M_inLevels_24 : decode prog_11_method_52_code 24 = .ok (.istore 6, 2) := by decide +kernel
theorem d_M_inLevels_26 : decode prog_11_method_52_code 26 = .ok (.aload_n 0, 1) := by decide +kernel
theorem d_M_inLevels_27 : decode prog_11_method_52_code 27 = .ok (.getfield 200, 3) := by decide +kernel
theorem d_M_inLevels_30 : decode prog_11_method_52_code 30 = .ok (.ifCond .eq 128, 3) := by decide +kernel
theorem d_M_inLevels_33 : decode prog_11_method_52_code 33 = .ok (.iload 6, 2) := by decide +kernel
theorem d_M_inLevels_35 : decode prog_11_method_52_code 35 = .ok (.ifCond .lt 123, 3) := by decide +kernel
theorem d_M_inLevels_38 : decode prog_11_method_52_code 38 = .ok (.aload_n 0, 1) := by decide +kernel
theorem d_M_inLevels_39 : decode prog_11_method_52_code 39 = .ok (.iload 6, 2) := by decide +kernel
theorem d_M_inLevels_41 : decode prog_11_method_52_code 41 = .ok (.invokevirtual 214, 3) := by decide +kernel
theorem d_M_inLevels_44 : decode prog_11_method_52_code 44 = .ok (.istore 7, 2) := by decide +kernel
theorem d_M_inLevels_46 : decode prog_11_method_52_code 46 = .ok (.aload_n 0, 1) := by decide +kernel
theorem d_M_inLevels_47 : decode prog_11_method_52_code 47 = .ok (.getfield 200, 3) := by decide +kernel
theorem d_M_inLevels_50 : decode prog_11_method_52_code 50 = .ok (.ifCond .eq 43, 3) := by decide +kernel
theorem d_M_inLevels_53 : decode prog_11_method_52_code 53 = .ok (.iload 6, 2) := by decide +kernel
theorem d_M_inLevels_55 : decode prog_11_method_52_code 55 = .ok (.iload_n 2, 1) := by decide +kernel
theorem d_M_inLevels_56 : decode prog_11_method_52_code 56 = .ok (.iconst 1, 1) := by decide +kernel
theorem d_M_inLevels_57 : decode prog_11_method_52_code 57 = .ok (.isub, 1) := by decide +kernel
theorem d_M_inLevels_58 : decode prog_11_method_52_code 58 = .ok (.if_icmp .ge 35, 3) := by decide +kernel
theorem d_M_inLevels_61 : decode prog_11_method_52_code 61 = .ok (.aload_n 0, 1) := by decide +kernel
theorem d_M_inLevels_62 : decode prog_11_method_52_code 62 = .ok (.iload 7, 2) := by decide +kernel
theorem d_M_inLevels_64 : decode prog_11_method_52_code 64 = .ok (.iload 5, 2) := by decide +kernel
theorem d_M_inLevels_66 : decode prog_11_method_52_code 66 = .ok (.if_icmp .ne 23, 3) := by decide +kernel
theorem d_M_inLevels_69 : decode prog_11_method_52_code 69 = .ok (.aload_n 0, 1) := by decide +kernel
theorem d_M_inLevels_70 : decode prog_11_method_52_code 70 = .ok (.getfield 63, 3) := by decide +kernel
theorem d_M_inLevels_73 : decode prog_11_method_52_code 73 = .ok (.aload_n 0, 1) := by decide +kernel
theorem d_M_inLevels_74 : decode prog_11_method_52_code 74 = .ok (.getfield 211, 3) := by decide +kernel
theorem d_M_inLevels_77 : decode prog_11_method_52_code 77 = .ok (.iconst 1, 1) := by decide +kernel
theorem d_M_inLevels_78 : decode prog_11_method_52_code 78 = .ok (.isub, 1) := by decide +kernel
theorem d_M_inLevels_79 : decode prog_11_method_52_code 79 = .ok (.iaload, 1) := by decide +kernel
theorem d_M_inLevels_80 : decode prog_11_method_52_code 80 = .ok (.iload 4, 2) := by decide +kernel
theorem d_M_inLevels_82 : decode prog_11_method_52_code 82 = .ok (.if_icmp .ne 7, 3) := by decide +kernel
theorem d_M_inLevels_85 : decode prog_11_method_52_code 85 = .ok (.iconst 1, 1) := by decide +kernel
theorem d_M_inLevels_86 : decode prog_11_method_52_code 86 = .ok (.goto 4, 3) := by decide +kernel
theorem d_M_inLevels_89 : decode prog_11_method_52_code 89 = .ok (.iconst 0, 1) := by decide +kernel
theorem d_M_inLevels_90 : decode prog_11_method_52_code 90 = .ok (.putfield 200, 3) := by decide +kernel
theorem d_M_inLevels_93 : decode prog_11_method_52_code 93 = .ok (.iload 6, 2) := by decide +kernel
theorem d_M_inLevels_95 : decode prog_11_method_52_code 95 = .ok (.iload_n 2, 1) := by decide +kernel
theorem d_M_inLevels_96 : decode prog_11_method_52_code 96 = .ok (.iconst 1, 1) := by decide +kernel
theorem d_M_inLevels_97 : decode prog_11_method_52_code 97 = .ok (.isub, 1) := by decide +kernel
theorem d_M_inLevels_98 : decode prog_11_method_52_code 98 = .ok (.if_icmp .ne 8, 3) := by decide +kernel
theorem d_M_inLevels_101 : decode prog_11_method_52_code 101 = .ok (.iload 7, 2) := by decide +kernel
theorem d_M_inLevels_103 : decode prog_11_method_52_code 103 = .ok (.goto 4, 3) := by decide +kernel
theorem d_M_inLevels_106 : decode prog_11_method_52_code 106 = .ok (.iload_n 3, 1) := by decide +kernel
theorem d_M_inLevels_107 : decode prog_11_method_52_code 107 = .ok (.istore_n 3, 1) := by decide +kernel
theorem d_M_inLevels_108 : decode prog_11_method_52_code 108 = .ok (.aload_n 0, 1) := by decide +kernel
theorem d_M_inLevels_109 : decode prog_11_method_52_code 109 = .ok (.getfield 200, 3) := by decide +kernel
theorem d_M_inLevels_112 : decode prog_11_method_52_code 112 = .ok (.ifCond .eq 19, 3) := by decide +kernel
theorem d_M_inLevels_115 : decode prog_11_method_52_code 115 = .ok (.aload_n 0, 1) := by decide +kernel
theorem d_M_inLevels_116 : decode prog_11_method_52_code 116 = .ok (.getfield 63, 3) := by decide +kernel
theorem d_M_inLevels_119 : decode prog_11_method_52_code 119 = .ok (.iconst 0, 1) := by decide +kernel
theorem d_M_inLevels_120 : decode prog_11_method_52_code 120 = .ok (.aload_n 0, 1) := by decide +kernel
theorem d_M_inLevels_121 : decode prog_11_method_52_code 121 = .ok (.getfield 211, 3) := by decide +kernel
theorem d_M_inLevels_124 : decode prog_11_method_52_code 124 = .ok (.iload_n 1, 1) := by decide +kernel
theorem d_M_inLevels_125 : decode prog_11_method_52_code 125 = .ok (.invokestatic 181, 3) := by decide +kernel
theorem d_M_inLevels_128 : decode prog_11_method_52_code 128 = .ok (.goto 4, 3) := by decide +kernel
theorem d_M_inLevels_131 : decode prog_11_method_52_code 131 = .ok (.iconst 0, 1) := by decide +kernel
theorem d_M_inLevels_132 : decode prog_11_method_52_code 132 = .ok (.istore 8, 2) := by decide +kernel
theorem d_M_inLevels_134 : decode prog_11_method_52_code 134 = .ok (.aload_n 0, 1) := by decide +kernel
theorem d_M_inLevels_135 : decode prog_11_method_52_code 135 = .ok (.getfield 63, 3) := by decide +kernel
theorem d_M_inLevels_138 : decode prog_11_method_52_code 138 = .ok (.iload 8, 2) := by decide +kernel
theorem d_M_inLevels_140 : decode prog_11_method_52_code 140 = .ok (.iaload, 1) := by decide +kernel
theorem d_M_inLevels_141 : decode prog_11_method_52_code 141 = .ok (.istore 4, 2) := by decide +kernel
theorem d_M_inLevels_143 : decode prog_11_method_52_code 143 = .ok (.aload_n 0, 1) := by decide +kernel
theorem d_M_inLevels_144 : decode prog_11_method_52_code 144 = .ok (.getfield 66, 3) := by decide +kernel
theorem d_M_inLevels_147 : decode prog_11_method_52_code 147 = .ok (.iload 8, 2) := by decide +kernel
theorem d_M_inLevels_149 : decode prog_11_method_52_code 149 = .ok (.iaload, 1) := by decide +kernel
theorem d_M_inLevels_150 : decode prog_11_method_52_code 150 = .ok (.istore 5, 2) := by decide +kernel
theorem d_M_inLevels_152 : decode prog_11_method_52_code 152 = .ok (.iinc 6 (-1), 3) := by decide +kernel
theorem d_M_inLevels_155 : decode prog_11_method_52_code 155 = .ok (.goto (-129), 3) := by decide +kernel
theorem d_M_inLevels_158 : decode prog_11_method_52_code 158 = .ok (.iload_n 3, 1) := by decide +kernel
theorem d_M_inLevels_159 : decode prog_11_method_52_code 159 = .ok (.ireturn, 1) := by decide +kernel
theorem d_M_inChunk_0 : decode prog_11_method_51_code 0 = .ok (.aload_n 0, 1) := by decide +kernel
theorem d_M_inChunk_1 : decode prog_11_method_51_code 1 = .ok (.aload_n 0, 1) := by decide +kernel
theorem d_M_inChunk_2 : decode prog_11_method_51_code 2 = .ok (.iconst 1, 1) := by decide +kernel
theorem d_M_inChunk_3 : decode prog_11_method_51_code 3 = .ok (.bipush 48, 2) := by decide +kernel
theorem d_M_inChunk_5 : decode prog_11_method_51_code 5 = .ok (.invokevirtual 204, 3) := by decide +kernel
theorem d_M_inChunk_8 : decode prog_11_method_51_code 8 = .ok (.putfield 211, 3) := by decide +kernel
theorem d_M_inChunk_11 : decode prog_11_method_51_code 11 = .ok (.bipush 6, 2) := by decide +kernel
theorem d_M_inChunk_13 : decode prog_11_method_51_code 13 = .ok (.iload_n 1, 1) := by decide +kernel
theorem d_M_inChunk_14 : decode prog_11_method_51_code 14 = .ok (.invokestatic 77, 3) := by decide +kernel
theorem d_M_inChunk_17 : decode prog_11_method_51_code 17 = .ok (.istore_n 2, 1) := by decide +kernel
theorem d_M_inChunk_18 : decode prog_11_method_51_code 18 = .ok (.iconst (-1), 1) := by decide +kernel
theorem d_M_inChunk_19 : decode prog_11_method_51_code 19 = .ok (.istore_n 3, 1) := by decide +kernel
theorem d_M_inChunk_20 : decode prog_11_method_51_code 20 = .ok (.iconst 0, 1) := by decide +kernel
theorem d_M_inChunk_21 : decode prog_11_method_51_code 21 = .ok (.istore 4, 2) := by decide +kernel
theorem d_M_inChunk_23 : decode prog_11_method_51_code 23 = .ok (.aload_n 0, 1) := by decide +kernel
theorem d_M_inChunk_24 : decode prog_11_method_51_code 24 = .ok (.getfield 200, 3) := by decide +kernel
theorem d_M_inChunk_27 : decode prog_11_method_51_code 27 = .ok (.ifCond .eq 75, 3) := by decide +kernel
theorem d_M_inChunk_30 : decode prog_11_method_51_code 30 = .ok (.iload 4, 2) := by decide +kernel
theorem d_M_inChunk_32 : decode prog_11_method_51_code 32 = .ok (.aload_n 0, 1) := by decide +kernel
theorem d_M_inChunk_33 : decode prog_11_method_51_code 33 = .ok (.getfield 211, 3) := by decide +kernel
theorem d_M_inChunk_36 : decode prog_11_method_51_code 36 = .ok (.if_icmp .ge 66, 3) := by decide +kernel
theorem d_M_inChunk_39 : decode prog_11_method_51_code 39 = .ok (.aload_n 0, 1) := by decide +kernel
theorem d_M_inChunk_40 : decode prog_11_method_51_code 40 = .ok (.getfield 63, 3) := by decide +kernel
theorem d_M_inChunk_43 : decode prog_11_method_51_code 43 = .ok (.iload 4, 2) := by decide +kernel
theorem d_M_inChunk_45 : decode prog_11_method_51_code 45 = .ok (.aload_n 0, 1) := by decide +kernel
theorem d_M_inChunk_46 : decode prog_11_method_51_code 46 = .ok (.iload_n 3, 1) := by decide +kernel
theorem d_M_inChunk_47 : decode prog_11_method_51_code 47 = .ok (.iconst 1, 1) := by decide +kernel
theorem d_M_inChunk_48 : decode prog_11_method_51_code 48 = .ok (.iadd, 1) := by decide +kernel
theorem d_M_inChunk_49 : decode prog_11_method_51_code 49 = .ok (.bipush 47, 2) := by decide +kernel
theorem d_M_inChunk_51 : decode prog_11_method_51_code 51 = .ok (.invokevirtual 204, 3) := by decide +kernel
theorem d_M_inChunk_54 : decode prog_11_method_51_code 54 = .ok (.iastore, 1) := by decide +kernel
theorem d_M_inChunk_55 : decode prog_11_method_51_code 55 = .ok (.aload_n 0, 1) := by decide +kernel
theorem d_M_inChunk_56 : decode prog_11_method_51_code 56 = .ok (.getfield 66, 3) := by decide +kernel
theorem d_M_inChunk_59 : decode prog_11_method_51_code 59 = .ok (.iload 4, 2) := by decide +kernel
theorem d_M_inChunk_61 : decode prog_11_method_51_code 61 = .ok (.aload_n 0, 1) := by decide +kernel
theorem d_M_inChunk_62 : decode prog_11_method_51_code 62 = .ok (.invokevirtual 207, 3) := by decide +kernel
theorem d_M_inChunk_65 : decode prog_11_method_51_code 65 = .ok (.iastore, 1) := by decide +kernel
theorem d_M_inChunk_66 : decode prog_11_method_51_code 66 = .ok (.iload_n 2, 1) := by decide +kernel
theorem d_M_inChunk_67 : decode prog_11_method_51_code 67 = .ok (.aload_n 0, 1) := by decide +kernel
theorem d_M_inChunk_68 : decode prog_11_method_51_code 68 = .ok (.getfield 63, 3) := by decide +kernel
theorem d_M_inChunk_71 : decode prog_11_method_51_code 71 = .ok (.iload 4, 2) := by decide +kernel
theorem d_M_inChunk_73 : decode prog_11_method_51_code 73 = .ok (.iaload, 1) := by decide +kernel
theorem d_M_inChunk_74 : decode prog_11_method_51_code 74 = .ok (.invokestatic 77, 3) := by decide +kernel
theorem d_M_inChunk_77 : decode prog_11_method_51_code 77 = .ok (.aload_n 0, 1) := by decide +kernel
theorem d_M_inChunk_78 : decode prog_11_method_51_code 78 = .ok (.getfield 66, 3) := by decide +kernel
theorem d_M_inChunk_81 : decode prog_11_method_51_code 81 = .ok (.iload 4, 2) := by decide +kernel
theorem d_M_inChunk_83 : decode prog_11_method_51_code 83 = .ok (.iaload, 1) := by decide +kernel
theorem d_M_inChunk_84 : decode prog_11_method_51_code 84 = .ok (.invokestatic 77, 3) := by decide +kernel
theorem d_M_inChunk_87 : decode prog_11_method_51_code 87 = .ok (.istore_n 2, 1) := by decide +kernel
theorem d_M_inChunk_88 : decode prog_11_method_51_code 88 = .ok (.aload_n 0, 1) := by decide +kernel
theorem d_M_inChunk_89 : decode prog_11_method_51_code 89 = .ok (.getfield 63, 3) := by decide +kernel
theorem d_M_inChunk_92 : decode prog_11_method_51_code 92 = .ok (.iload 4, 2) := by decide +kernel
theorem d_M_inChunk_94 : decode prog_11_method_51_code 94 = .ok (.iaload, 1) := by decide +kernel
theorem d_M_inChunk_95 : decode prog_11_method_51_code 95 = .ok (.istore_n 3, 1) := by decide +kernel
theorem d_M_inChunk_96 : decode prog_11_method_51_code 96 = .ok (.iinc 4 1, 3) := by decide +kernel
theorem d_M_inChunk_99 : decode prog_11_method_51_code 99 = .ok (.goto (-76), 3) := by decide +kernel
theorem d_M_inChunk_102 : decode prog_11_method_51_code 102 = .ok (.iload_n 2, 1) := by decide +kernel
theorem d_M_inChunk_103 : decode prog_11_method_51_code 103 = .ok (.ireturn, 1) := by decide +kernel
theorem d_M_lead_0 : decode prog_11_method_53_code 0 = .ok (.iload_n 1, 1) := by decide +kernel
theorem d_M_lead_1 : decode prog_11_method_53_code 1 = .ok (.istore_n 3, 1) := by decide +kernel
theorem d_M_lead_2 : decode prog_11_method_53_code 2 = .ok (.iload_n 2, 1) := by decide +kernel
theorem d_M_lead_3 : decode prog_11_method_53_code 3 = .ok (.istore 4, 2) := by decide +kernel
theorem d_M_lead_5 : decode prog_11_method_53_code 5 = .ok (.iload 4, 2) := by decide +kernel
theorem d_M_lead_7 : decode prog_11_method_53_code 7 = .ok (.aload_n 0, 1) := by decide +kernel
theorem d_M_lead_8 : decode prog_11_method_53_code 8 = .ok (.getfield 155, 3) := by decide +kernel
theorem d_M_lead_11 : decode prog_11_method_53_code 11 = .ok (.if_icmp .ge 52, 3) := by decide +kernel
theorem d_M_lead_14 : decode prog_11_method_53_code 14 = .ok (.aload_n 0, 1) := by decide +kernel
theorem d_M_lead_15 : decode prog_11_method_53_code 15 = .ok (.getfield 51, 3) := by decide +kernel
theorem d_M_lead_18 : decode prog_11_method_53_code 18 = .ok (.aload_n 0, 1) := by decide +kernel
theorem d_M_lead_19 : decode prog_11_method_53_code 19 = .ok (.getfield 155, 3) := by decide +kernel
theorem d_M_lead_22 : decode prog_11_method_53_code 22 = .ok (.iconst 1, 1) := by decide +kernel
theorem d_M_lead_23 : decode prog_11_method_53_code 23 = .ok (.isub, 1) := by decide +kernel
theorem d_M_lead_24 : decode prog_11_method_53_code 24 = .ok (.iload 4, 2) := by decide +kernel
theorem d_M_lead_26 : decode prog_11_method_53_code 26 = .ok (.isub, 1) := by decide +kernel
theorem d_M_lead_27 : decode prog_11_method_53_code 27 = .ok (.baload, 1) := by decide +kernel
theorem d_M_lead_28 : decode prog_11_method_53_code 28 = .ok (.ifCond .eq 17, 3) := by decide +kernel
theorem d_M_lead_31 : decode prog_11_method_53_code 31 = .ok (.aload_n 0, 1) := by decide +kernel
theorem d_M_lead_32 : decode prog_11_method_53_code 32 = .ok (.getfield 60, 3) := by decide +kernel
theorem d_M_lead_35 : decode prog_11_method_53_code 35 = .ok (.iload 4, 2) := by decide +kernel
theorem d_M_lead_37 : decode prog_11_method_53_code 37 = .ok (.iaload, 1) := by decide +kernel
theorem d_M_lead_38 : decode prog_11_method_53_code 38 = .ok (.iload_n 3, 1) := by decide +kernel
theorem d_M_lead_39 : decode prog_11_method_53_code 39 = .ok (.invokestatic 149, 3) := by decide +kernel
theorem d_M_lead_42 : decode prog_11_method_53_code 42 = .ok (.goto 14, 3) := by decide +kernel
theorem d_M_lead_45 : decode prog_11_method_53_code 45 = .ok (.iload_n 3, 1) := by decide +kernel
theorem d_M_lead_46 : decode prog_11_method_53_code 46 = .ok (.aload_n 0, 1) := by decide +kernel
theorem d_M_lead_47 : decode prog_11_method_53_code 47 = .ok (.getfield 60, 3) := by decide +kernel
theorem d_M_lead_50 : decode prog_11_method_53_code 50 = .ok (.iload 4, 2) := by decide +kernel
theorem d_M_lead_52 : decode prog_11_method_53_code 52 = .ok (.iaload, 1) := by decide +kernel
theorem d_M_lead_53 : decode prog_11_method_53_code 53 = .ok (.invokestatic 149, 3) := by decide +kernel
theorem d_M_lead_56 : decode prog_11_method_53_code 56 = .ok (.istore_n 3, 1) := by decide +kernel
theorem d_M_lead_57 : decode prog_11_method_53_code 57 = .ok (.iinc 4 1, 3) := by decide +kernel
theorem d_M_lead_60 : decode prog_11_method_53_code 60 = .ok (.goto (-55), 3) := by decide +kernel
theorem d_M_lead_63 : decode prog_11_method_53_code 63 = .ok (.iload_n 3, 1) := by decide +kernel
theorem d_M_lead_64 : decode prog_11_method_53_code 64 = .ok (.ireturn, 1) := by decide +kernel
theorem d_M_shown_0 : decode prog_11_method_55_code 0 = .ok (.aload_n 0, 1) := by decide +kernel
theorem d_M_shown_1 : decode prog_11_method_55_code 1 = .ok (.iconst 0, 1) := by decide +kernel
theorem d_M_shown_2 : decode prog_11_method_55_code 2 = .ok (.putfield 73, 3) := by decide +kernel
theorem d_M_shown_5 : decode prog_11_method_55_code 5 = .ok (.aload_n 0, 1) := by decide +kernel
theorem d_M_shown_6 : decode prog_11_method_55_code 6 = .ok (.getfield 226, 3) := by decide +kernel
theorem d_M_shown_9 : decode prog_11_method_55_code 9 = .ok (.ireturn, 1) := by decide +kernel
theorem d_M_verifyGrowth_0 : decode prog_11_method_56_code 0 = .ok (.iload_n 2, 1) := by decide +kernel
theorem d_M_verifyGrowth_1 : decode prog_11_method_56_code 1 = .ok (.ifCond .le 20, 3) := by decide +kernel
theorem d_M_verifyGrowth_4 : decode prog_11_method_56_code 4 = .ok (.iload_n 2, 1) := by decide +kernel
theorem d_M_verifyGrowth_5 : decode prog_11_method_56_code 5 = .ok (.iload 4, 2) := by decide +kernel
theorem d_M_verifyGrowth_7 : decode prog_11_method_56_code 7 = .ok (.if_icmp .ge 14, 3) := by decide +kernel
theorem d_M_verifyGrowth_10 : decode prog_11_method_56_code 10 = .ok (.iload 4, 2) := by decide +kernel
theorem d_M_verifyGrowth_12 : decode prog_11_method_56_code 12 = .ok (.bipush 17, 2) := by decide +kernel
theorem d_M_verifyGrowth_14 : decode prog_11_method_56_code 14 = .ok (.if_icmp .ge 7, 3) := by decide +kernel
theorem d_M_verifyGrowth_17 : decode prog_11_method_56_code 17 = .ok (.iconst 1, 1) := by decide +kernel
theorem d_M_verifyGrowth_18 : decode prog_11_method_56_code 18 = .ok (.goto 4, 3) := by decide +kernel
theorem d_M_verifyGrowth_21 : decode prog_11_method_56_code 21 = .ok (.iconst 0, 1) := by decide +kernel
theorem d_M_verifyGrowth_22 : decode prog_11_method_56_code 22 = .ok (.istore 5, 2) := by decide +kernel
theorem d_M_verifyGrowth_24 : decode prog_11_method_56_code 24 = .ok (.aload_n 0, 1) := by decide +kernel
theorem d_M_verifyGrowth_25 : decode prog_11_method_56_code 25 = .ok (.iload 5, 2) := by decide +kernel
theorem d_M_verifyGrowth_27 : decode prog_11_method_56_code 27 = .ok (.ifCond .eq 7, 3) := by decide +kernel
theorem d_M_verifyGrowth_30 : decode prog_11_method_56_code 30 = .ok (.iconst 0, 1) := by decide +kernel
theorem d_M_verifyGrowth_31 : decode prog_11_method_56_code 31 = .ok (.goto 4, 3) := by decide +kernel
theorem d_M_verifyGrowth_34 : decode prog_11_method_56_code 34 = .ok (.iconst 1, 1) := by decide +kernel
theorem d_M_verifyGrowth_35 : decode prog_11_method_56_code 35 = .ok (.putfield 73, 3) := by decide +kernel
theorem d_M_verifyGrowth_38 : decode prog_11_method_56_code 38 = .ok (.iload 5, 2) := by decide +kernel
theorem d_M_verifyGrowth_40 : decode prog_11_method_56_code 40 = .ok (.ifCond .ne 5, 3) := by decide +kernel
theorem d_M_verifyGrowth_43 : decode prog_11_method_56_code 43 = .ok (.iconst 0, 1) := by decide +kernel
theorem d_M_verifyGrowth_44 : decode prog_11_method_56_code 44 = .ok (.ireturn, 1) := by decide +kernel
theorem d_M_verifyGrowth_45 : decode prog_11_method_56_code 45 = .ok (.aload_n 0, 1) := by decide +kernel
theorem d_M_verifyGrowth_46 : decode prog_11_method_56_code 46 = .ok (.iload_n 2, 1) := by decide +kernel
theorem d_M_verifyGrowth_47 : decode prog_11_method_56_code 47 = .ok (.iload 4, 2) := by decide +kernel
theorem d_M_verifyGrowth_49 : decode prog_11_method_56_code 49 = .ok (.invokevirtual 191, 3) := by decide +kernel
theorem d_M_verifyGrowth_52 : decode prog_11_method_56_code 52 = .ok (.istore 6, 2) := by decide +kernel
theorem d_M_verifyGrowth_54 : decode prog_11_method_56_code 54 = .ok (.aload_n 0, 1) := by decide +kernel
theorem d_M_verifyGrowth_55 : decode prog_11_method_56_code 55 = .ok (.invokevirtual 217, 3) := by decide +kernel
theorem d_M_verifyGrowth_58 : decode prog_11_method_56_code 58 = .ok (.aload_n 0, 1) := by decide +kernel
theorem d_M_verifyGrowth_59 : decode prog_11_method_56_code 59 = .ok (.getfield 200, 3) := by decide +kernel
theorem d_M_verifyGrowth_62 : decode prog_11_method_56_code 62 = .ok (.ifCond .eq 18, 3) := by decide +kernel
theorem d_M_verifyGrowth_65 : decode prog_11_method_56_code 65 = .ok (.aload_n 0, 1) := by decide +kernel
theorem d_M_verifyGrowth_66 : decode prog_11_method_56_code 66 = .ok (.getfield 197, 3) := by decide +kernel
theorem d_M_verifyGrowth_69 : decode prog_11_method_56_code 69 = .ok (.aload_n 0, 1) := by decide +kernel
theorem d_M_verifyGrowth_70 : decode prog_11_method_56_code 70 = .ok (.getfield 194, 3) := by decide +kernel
theorem d_M_verifyGrowth_73 : decode prog_11_method_56_code 73 = .ok (.if_icmp .ne 7, 3) := by decide +kernel
theorem d_M_verifyGrowth_76 : decode prog_11_method_56_code 76 = .ok (.iconst 1, 1) := by decide +kernel
theorem d_M_verifyGrowth_77 : decode prog_11_method_56_code 77 = .ok (.goto 4, 3) := by decide +kernel
theorem d_M_verifyGrowth_80 : decode prog_11_method_56_code 80 = .ok (.iconst 0, 1) := by decide +kernel
theorem d_M_verifyGrowth_81 : decode prog_11_method_56_code 81 = .ok (.istore 7, 2) := by decide +kernel
theorem d_M_verifyGrowth_83 : decode prog_11_method_56_code 83 = .ok (.aload_n 0, 1) := by decide +kernel
theorem d_M_verifyGrowth_84 : decode prog_11_method_56_code 84 = .ok (.iconst 0, 1) := by decide +kernel
theorem d_M_verifyGrowth_85 : decode prog_11_method_56_code 85 = .ok (.putfield 194, 3) := by decide +kernel
theorem d_M_verifyGrowth_88 : decode prog_11_method_56_code 88 = .ok (.iload 6, 2) := by decide +kernel
theorem d_M_verifyGrowth_90 : decode prog_11_method_56_code 90 = .ok (.ifCond .eq 7, 3) := by decide +kernel
theorem d_M_verifyGrowth_93 : decode prog_11_method_56_code 93 = .ok (.iconst 0, 1) := by decide +kernel
theorem d_M_verifyGrowth_94 : decode prog_11_method_56_code 94 = .ok (.goto 4, 3) := by decide +kernel
theorem d_M_verifyGrowth_97 : decode prog_11_method_56_code 97 = .ok (.iconst 1, 1) := by decide +kernel
theorem d_M_verifyGrowth_98 : decode prog_11_method_56_code 98 = .ok (.istore 8, 2) := by decide +kernel
theorem d_M_verifyGrowth_100 : decode prog_11_method_56_code 100 = .ok (.iload 6, 2) := by decide +kernel
theorem d_M_verifyGrowth_102 : decode prog_11_method_56_code 102 = .ok (.ifCond .eq 7, 3) := by decide +kernel
theorem d_M_verifyGrowth_105 : decode prog_11_method_56_code 105 = .ok (.iload_n 1, 1) := by decide +kernel
theorem d_M_verifyGrowth_106 : decode prog_11_method_56_code 106 = .ok (.goto 9, 3) := by decide +kernel
theorem d_M_verifyGrowth_109 : decode prog_11_method_56_code 109 = .ok (.aload_n 0, 1) := by decide +kernel
theorem d_M_verifyGrowth_110 : decode prog_11_method_56_code 110 = .ok (.getfield 60, 3) := by decide +kernel
theorem d_M_verifyGrowth_113 : decode prog_11_method_56_code 113 = .ok (.iconst 0, 1) := by decide +kernel
theorem d_M_verifyGrowth_114 : decode prog_11_method_56_code 114 = .ok (.iaload, 1) := by decide +kernel
theorem d_M_verifyGrowth_115 : decode prog_11_method_56_code 115 = .ok (.istore 9, 2) := by decide +kernel
theorem d_M_verifyGrowth_117 : decode prog_11_method_56_code 117 = .ok (.iload 9, 2) := by decide +kernel
theorem d_M_verifyGrowth_119 : decode prog_11_method_56_code 119 = .ok (.istore 10, 2) := by decide +kernel
theorem d_M_verifyGrowth_121 : decode prog_11_method_56_code 121 = .ok (.iload 8, 2) := by decide +kernel
theorem d_M_verifyGrowth_123 : decode prog_11_method_56_code 123 = .ok (.istore 11, 2) := by decide +kernel
theorem d_M_verifyGrowth_125 : decode prog_11_method_56_code 125 = .ok (.iload 11, 2) := by decide +kernel
theorem d_M_verifyGrowth_127 : decode prog_11_method_56_code 127 = .ok (.aload_n 0, 1) := by decide +kernel
theorem d_M_verifyGrowth_128 : decode prog_11_method_56_code 128 = .ok (.getfield 155, 3) := by decide +kernel
theorem d_M_verifyGrowth_131 : decode prog_11_method_56_code 131 = .ok (.if_icmp .ge 45, 3) := by decide +kernel
theorem d_M_verifyGrowth_134 : decode prog_11_method_56_code 134 = .ok (.aload_n 0, 1) := by decide +kernel
theorem d_M_verifyGrowth_135 : decode prog_11_method_56_code 135 = .ok (.getfield 51, 3) := by decide +kernel
theorem d_M_verifyGrowth_138 : decode prog_11_method_56_code 138 = .ok (.aload_n 0, 1) := by decide +kernel
theorem d_M_verifyGrowth_139 : decode prog_11_method_56_code 139 = .ok (.getfield 155, 3) := by decide +kernel
theorem d_M_verifyGrowth_142 : decode prog_11_method_56_code 142 = .ok (.iconst 1, 1) := by decide +kernel
theorem d_M_verifyGrowth_143 : decode prog_11_method_56_code 143 = .ok (.isub, 1) := by decide +kernel
theorem d_M_verifyGrowth_144 : decode prog_11_method_56_code 144 = .ok (.iload 11, 2) := by decide +kernel
theorem d_M_verifyGrowth_146 : decode prog_11_method_56_code 146 = .ok (.isub, 1) := by decide +kernel
theorem d_M_verifyGrowth_147 : decode prog_11_method_56_code 147 = .ok (.baload, 1) := by decide +kernel
theorem d_M_verifyGrowth_148 : decode prog_11_method_56_code 148 = .ok (.ifCond .eq 18, 3) := by decide +kernel
theorem d_M_verifyGrowth_151 : decode prog_11_method_56_code 151 = .ok (.aload_n 0, 1) := by decide +kernel
theorem d_M_verifyGrowth_152 : decode prog_11_method_56_code 152 = .ok (.getfield 60, 3) := by decide +kernel
theorem d_M_verifyGrowth_155 : decode prog_11_method_56_code 155 = .ok (.iload 11, 2) := by decide +kernel
theorem d_M_verifyGrowth_157 : decode prog_11_method_56_code 157 = .ok (.iaload, 1) := by decide +kernel
theorem d_M_verifyGrowth_158 : decode prog_11_method_56_code 158 = .ok (.iload 10, 2) := by decide +kernel
theorem d_M_verifyGrowth_160 : decode prog_11_method_56_code 160 = .ok (.invokestatic 149, 3) := by decide +kernel
theorem d_M_verifyGrowth_163 : decode prog_11_method_56_code 163 = .ok (.goto 5, 3) := by decide +kernel
theorem d_M_verifyGrowth_166 : decode prog_11_method_56_code 166 = .ok (.iload 10, 2) := by decide +kernel
theorem d_M_verifyGrowth_168 : decode prog_11_method_56_code 168 = .ok (.istore 10, 2) := by decide +kernel
theorem d_M_verifyGrowth_170 : decode prog_11_method_56_code 170 = .ok (.iinc 11 1, 3) := by decide +kernel
theorem d_M_verifyGrowth_173 : decode prog_11_method_56_code 173 = .ok (.goto (-48), 3) := by decide +kernel
theorem d_M_verifyGrowth_176 : decode prog_11_method_56_code 176 = .ok (.iload 7, 2) := by decide +kernel
theorem d_M_verifyGrowth_178 : decode prog_11_method_56_code 178 = .ok (.ifCond .eq 25, 3) := by decide +kernel
theorem d_M_verifyGrowth_181 : decode prog_11_method_56_code 181 = .ok (.iload 10, 2) := by decide +kernel
theorem d_M_verifyGrowth_183 : decode prog_11_method_56_code 183 = .ok (.iload_n 1, 1) := by decide +kernel
theorem d_M_verifyGrowth_184 : decode prog_11_method_56_code 184 = .ok (.if_icmp .ne 19, 3) := by decide +kernel
theorem d_M_verifyGrowth_187 : decode prog_11_method_56_code 187 = .ok (.aload_n 0, 1) := by decide +kernel
theorem d_M_verifyGrowth_188 : decode prog_11_method_56_code 188 = .ok (.iload 9, 2) := by decide +kernel
theorem d_M_verifyGrowth_190 : decode prog_11_method_56_code 190 = .ok (.iload 8, 2) := by decide +kernel
theorem d_M_verifyGrowth_192 : decode prog_11_method_56_code 192 = .ok (.invokevirtual 223, 3) := by decide +kernel
theorem d_M_verifyGrowth_195 : decode prog_11_method_56_code 195 = .ok (.iload_n 3, 1) := by decide +kernel
theorem d_M_verifyGrowth_196 : decode prog_11_method_56_code 196 = .ok (.if_icmp .ne 7, 3) := by decide +kernel
theorem d_M_verifyGrowth_199 : decode prog_11_method_56_code 199 = .ok (.iconst 1, 1) := by decide +kernel
theorem d_M_verifyGrowth_200 : decode prog_11_method_56_code 200 = .ok (.goto 4, 3) := by decide +kernel
theorem d_M_verifyGrowth_203 : decode prog_11_method_56_code 203 = .ok (.iconst 0, 1) := by decide +kernel
theorem d_M_verifyGrowth_204 : decode prog_11_method_56_code 204 = .ok (.ireturn, 1) := by decide +kernel
