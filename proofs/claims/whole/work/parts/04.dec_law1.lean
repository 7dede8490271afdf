theorem d_L_put_0 : decode method_3_code 0 = .ok (.aload_n 0, 1) := by decide +kernel
theorem d_L_put_1 : decode method_3_code 1 = .ok (.iload_n 1, 1) := by decide +kernel
theorem d_L_put_2 : decode method_3_code 2 = .ok (.iload_n 2, 1) := by decide +kernel
theorem d_L_put_3 : decode method_3_code 3 = .ok (.invokevirtual 7, 3) := by decide +kernel
theorem d_L_put_6 : decode method_3_code 6 = .ok (.goto 9, 3) := by decide +kernel
theorem d_L_put_9 : decode method_3_code 9 = .ok (.astore_n 3, 1) := by decide +kernel
theorem d_L_put_10 : decode method_3_code 10 = .ok (.iconst 1, 1) := by decide +kernel
theorem d_L_put_11 : decode method_3_code 11 = .ok (.ireturn, 1) := by decide +kernel
theorem d_L_put_12 : decode method_3_code 12 = .ok (.astore_n 3, 1) := by decide +kernel
theorem d_L_put_13 : decode method_3_code 13 = .ok (.iconst 2, 1) := by decide +kernel
theorem d_L_put_14 : decode method_3_code 14 = .ok (.ireturn, 1) := by decide +kernel
theorem d_L_put_15 : decode method_3_code 15 = .ok (.iconst 0, 1) := by decide +kernel
theorem d_L_put_16 : decode method_3_code 16 = .ok (.ireturn, 1) := by decide +kernel
theorem d_L_delete_0 : decode method_4_code 0 = .ok (.aload_n 2, 1) := by decide +kernel
theorem d_L_delete_1 : decode method_4_code 1 = .ok (.iconst 0, 1) := by decide +kernel
theorem d_L_delete_2 : decode method_4_code 2 = .ok (.aload_n 0, 1) := by decide +kernel
theorem d_L_delete_3 : decode method_4_code 3 = .ok (.iload_n 1, 1) := by decide +kernel
theorem d_L_delete_4 : decode method_4_code 4 = .ok (.invokevirtual 17, 3) := by decide +kernel
theorem d_L_delete_7 : decode method_4_code 7 = .ok (.ifCond .eq 7, 3) := by decide +kernel
theorem d_L_delete_10 : decode method_4_code 10 = .ok (.lconst 1, 1) := by decide +kernel
theorem d_L_delete_11 : decode method_4_code 11 = .ok (.goto 4, 3) := by decide +kernel
theorem d_L_delete_14 : decode method_4_code 14 = .ok (.lconst 0, 1) := by decide +kernel
theorem d_L_delete_15 : decode method_4_code 15 = .ok (.lastore, 1) := by decide +kernel
theorem d_L_delete_16 : decode method_4_code 16 = .ok (.goto 9, 3) := by decide +kernel
theorem d_L_delete_19 : decode method_4_code 19 = .ok (.astore_n 3, 1) := by decide +kernel
theorem d_L_delete_20 : decode method_4_code 20 = .ok (.iconst 1, 1) := by decide +kernel
theorem d_L_delete_21 : decode method_4_code 21 = .ok (.ireturn, 1) := by decide +kernel
theorem d_L_delete_22 : decode method_4_code 22 = .ok (.astore_n 3, 1) := by decide +kernel
theorem d_L_delete_23 : decode method_4_code 23 = .ok (.iconst 2, 1) := by decide +kernel
theorem d_L_delete_24 : decode method_4_code 24 = .ok (.ireturn, 1) := by decide +kernel
theorem d_L_delete_25 : decode method_4_code 25 = .ok (.iconst 0, 1) := by decide +kernel
theorem d_L_delete_26 : decode method_4_code 26 = .ok (.ireturn, 1) := by decide +kernel
theorem d_L_commit_0 : decode method_5_code 0 = .ok (.aload_n 1, 1) := by decide +kernel
theorem d_L_commit_1 : decode method_5_code 1 = .ok (.iconst 0, 1) := by decide +kernel
theorem d_L_commit_2 : decode method_5_code 2 = .ok (.aload_n 0, 1) := by decide +kernel
theorem d_L_commit_3 : decode method_5_code 3 = .ok (.invokevirtual 21, 3) := by decide +kernel
theorem d_L_commit_6 : decode method_5_code 6 = .ok (.i2l, 1) := by decide +kernel
theorem d_L_commit_7 : decode method_5_code 7 = .ok (.lastore, 1) := by decide +kernel
theorem d_L_commit_8 : decode method_5_code 8 = .ok (.goto 6, 3) := by decide +kernel
theorem d_L_commit_11 : decode method_5_code 11 = .ok (.astore_n 2, 1) := by decide +kernel
theorem d_L_commit_12 : decode method_5_code 12 = .ok (.iconst 1, 1) := by decide +kernel
theorem d_L_commit_13 : decode method_5_code 13 = .ok (.ireturn, 1) := by decide +kernel
theorem d_L_commit_14 : decode method_5_code 14 = .ok (.iconst 0, 1) := by decide +kernel
theorem d_L_commit_15 : decode method_5_code 15 = .ok (.ireturn, 1) := by decide +kernel
theorem d_L_get_0 : decode method_6_code 0 = .ok (.aload_n 3, 1) := by decide +kernel
theorem d_L_get_1 : decode method_6_code 1 = .ok (.iconst 0, 1) := by decide +kernel
theorem d_L_get_2 : decode method_6_code 2 = .ok (.aload_n 0, 1) := by decide +kernel
theorem d_L_get_3 : decode method_6_code 3 = .ok (.iload_n 1, 1) := by decide +kernel
theorem d_L_get_4 : decode method_6_code 4 = .ok (.iload_n 2, 1) := by decide +kernel
theorem d_L_get_5 : decode method_6_code 5 = .ok (.invokevirtual 25, 3) := by decide +kernel
theorem d_L_get_8 : decode method_6_code 8 = .ok (.i2l, 1) := by decide +kernel
theorem d_L_get_9 : decode method_6_code 9 = .ok (.lastore, 1) := by decide +kernel
theorem d_L_get_10 : decode method_6_code 10 = .ok (.goto 11, 3) := by decide +kernel
theorem d_L_get_13 : decode method_6_code 13 = .ok (.astore 4, 2) := by decide +kernel
theorem d_L_get_15 : decode method_6_code 15 = .ok (.iconst 1, 1) := by decide +kernel
theorem d_L_get_16 : decode method_6_code 16 = .ok (.ireturn, 1) := by decide +kernel
theorem d_L_get_17 : decode method_6_code 17 = .ok (.astore 4, 2) := by decide +kernel
theorem d_L_get_19 : decode method_6_code 19 = .ok (.iconst 2, 1) := by decide +kernel
theorem d_L_get_20 : decode method_6_code 20 = .ok (.ireturn, 1) := by decide +kernel
theorem d_L_get_21 : decode method_6_code 21 = .ok (.iconst 0, 1) := by decide +kernel
theorem d_L_get_22 : decode method_6_code 22 = .ok (.ireturn, 1) := by decide +kernel
theorem d_L_range_0 : decode method_7_code 0 = .ok (.aload 4, 2) := by decide +kernel
theorem d_L_range_2 : decode method_7_code 2 = .ok (.iconst 0, 1) := by decide +kernel
theorem d_L_range_3 : decode method_7_code 3 = .ok (.aload_n 0, 1) := by decide +kernel
theorem d_L_range_4 : decode method_7_code 4 = .ok (.iload_n 1, 1) := by decide +kernel
theorem d_L_range_5 : decode method_7_code 5 = .ok (.iload_n 2, 1) := by decide +kernel
theorem d_L_range_6 : decode method_7_code 6 = .ok (.iload_n 3, 1) := by decide +kernel
theorem d_L_range_7 : decode method_7_code 7 = .ok (.invokevirtual 31, 3) := by decide +kernel
theorem d_L_range_10 : decode method_7_code 10 = .ok (.i2l, 1) := by decide +kernel
theorem d_L_range_11 : decode method_7_code 11 = .ok (.lastore, 1) := by decide +kernel
theorem d_L_range_12 : decode method_7_code 12 = .ok (.goto 7, 3) := by decide +kernel
theorem d_L_range_15 : decode method_7_code 15 = .ok (.astore 5, 2) := by decide +kernel
theorem d_L_range_17 : decode method_7_code 17 = .ok (.iconst 1, 1) := by decide +kernel
theorem d_L_range_18 : decode method_7_code 18 = .ok (.ireturn, 1) := by decide +kernel
theorem d_L_range_19 : decode method_7_code 19 = .ok (.iconst 0, 1) := by decide +kernel
theorem d_L_range_20 : decode method_7_code 20 = .ok (.ireturn, 1) := by decide +kernel
theorem d_L_root_0 : decode method_8_code 0 = .ok (.aload_n 2, 1) := by decide +kernel
theorem d_L_root_1 : decode method_8_code 1 = .ok (.iconst 0, 1) := by decide +kernel
theorem d_L_root_2 : decode method_8_code 2 = .ok (.aload_n 0, 1) := by decide +kernel
theorem d_L_root_3 : decode method_8_code 3 = .ok (.iload_n 1, 1) := by decide +kernel
theorem d_L_root_4 : decode method_8_code 4 = .ok (.invokevirtual 35, 3) := by decide +kernel
theorem d_L_root_7 : decode method_8_code 7 = .ok (.i2l, 1) := by decide +kernel
theorem d_L_root_8 : decode method_8_code 8 = .ok (.lastore, 1) := by decide +kernel
theorem d_L_root_9 : decode method_8_code 9 = .ok (.goto 6, 3) := by decide +kernel
theorem d_L_root_12 : decode method_8_code 12 = .ok (.astore_n 3, 1) := by decide +kernel
theorem d_L_root_13 : decode method_8_code 13 = .ok (.iconst 1, 1) := by decide +kernel
theorem d_L_root_14 : decode method_8_code 14 = .ok (.ireturn, 1) := by decide +kernel
theorem d_L_root_15 : decode method_8_code 15 = .ok (.iconst 0, 1) := by decide +kernel
theorem d_L_root_16 : decode method_8_code 16 = .ok (.ireturn, 1) := by decide +kernel
theorem d_L_digest_0 : decode method_9_code 0 = .ok (.aload_n 2, 1) := by decide +kernel
theorem d_L_digest_1 : decode method_9_code 1 = .ok (.iconst 0, 1) := by decide +kernel
theorem d_L_digest_2 : decode method_9_code 2 = .ok (.aload_n 0, 1) := by decide +kernel
theorem d_L_digest_3 : decode method_9_code 3 = .ok (.iload_n 1, 1) := by decide +kernel
theorem d_L_digest_4 : decode method_9_code 4 = .ok (.invokevirtual 39, 3) := by decide +kernel
theorem d_L_digest_7 : decode method_9_code 7 = .ok (.i2l, 1) := by decide +kernel
theorem d_L_digest_8 : decode method_9_code 8 = .ok (.lastore, 1) := by decide +kernel
theorem d_L_digest_9 : decode method_9_code 9 = .ok (.goto 6, 3) := by decide +kernel
theorem d_L_digest_12 : decode method_9_code 12 = .ok (.astore_n 3, 1) := by decide +kernel
theorem d_L_digest_13 : decode method_9_code 13 = .ok (.iconst 1, 1) := by decide +kernel
theorem d_L_digest_14 : decode method_9_code 14 = .ok (.ireturn, 1) := by decide +kernel
theorem d_L_digest_15 : decode method_9_code 15 = .ok (.iconst 0, 1) := by decide +kernel
theorem d_L_digest_16 : decode method_9_code 16 = .ok (.ireturn, 1) := by decide +kernel
theorem d_L_prove_0 : decode method_10_code 0 = .ok (.aload 4, 2) := by decide +kernel
theorem d_L_prove_2 : decode method_10_code 2 = .ok (.iconst 0, 1) := by decide +kernel
theorem d_L_prove_3 : decode method_10_code 3 = .ok (.aload_n 0, 1) := by decide +kernel
theorem d_L_prove_4 : decode method_10_code 4 = .ok (.iload_n 1, 1) := by decide +kernel
theorem d_L_prove_5 : decode method_10_code 5 = .ok (.iload_n 2, 1) := by decide +kernel
theorem d_L_prove_6 : decode method_10_code 6 = .ok (.iload_n 3, 1) := by decide +kernel
theorem d_L_prove_7 : decode method_10_code 7 = .ok (.invokevirtual 42, 3) := by decide +kernel
theorem d_L_prove_10 : decode method_10_code 10 = .ok (.i2l, 1) := by decide +kernel
theorem d_L_prove_11 : decode method_10_code 11 = .ok (.lastore, 1) := by decide +kernel
theorem d_L_prove_12 : decode method_10_code 12 = .ok (.goto 7, 3) := by decide +kernel
theorem d_L_prove_15 : decode method_10_code 15 = .ok (.astore 5, 2) := by decide +kernel
theorem d_L_prove_17 : decode method_10_code 17 = .ok (.iconst 1, 1) := by decide +kernel
theorem d_L_prove_18 : decode method_10_code 18 = .ok (.ireturn, 1) := by decide +kernel
theorem d_L_prove_19 : decode method_10_code 19 = .ok (.iconst 0, 1) := by decide +kernel
theorem d_L_prove_20 : decode method_10_code 20 = .ok (.ireturn, 1) := by decide +kernel
theorem d_L_proveGrowth_0 : decode method_11_code 0 = .ok (.aload_n 3, 1) := by decide +kernel
theorem d_L_proveGrowth_1 : decode method_11_code 1 = .ok (.iconst 0, 1) := by decide +kernel
theorem d_L_proveGrowth_2 : decode method_11_code 2 = .ok (.aload_n 0, 1) := by decide +kernel
theorem d_L_proveGrowth_3 : decode method_11_code 3 = .ok (.iload_n 1, 1) := by decide +kernel
theorem d_L_proveGrowth_4 : decode method_11_code 4 = .ok (.iload_n 2, 1) := by decide +kernel
theorem d_L_proveGrowth_5 : decode method_11_code 5 = .ok (.invokevirtual 45, 3) := by decide +kernel
theorem d_L_proveGrowth_8 : decode method_11_code 8 = .ok (.i2l, 1) := by decide +kernel
theorem d_L_proveGrowth_9 : decode method_11_code 9 = .ok (.lastore, 1) := by decide +kernel
theorem d_L_proveGrowth_10 : decode method_11_code 10 = .ok (.goto 7, 3) := by decide +kernel
theorem d_L_proveGrowth_13 : decode method_11_code 13 = .ok (.astore 4, 2) := by decide +kernel
theorem d_L_proveGrowth_15 : decode method_11_code 15 = .ok (.iconst 1, 1) := by decide +kernel
theorem d_L_proveGrowth_16 : decode method_11_code 16 = .ok (.ireturn, 1) := by decide +kernel
theorem d_L_proveGrowth_17 : decode method_11_code 17 = .ok (.iconst 0, 1) := by decide +kernel
theorem d_L_proveGrowth_18 : decode method_11_code 18 = .ok (.ireturn, 1) := by decide +kernel
theorem d_L_verify_0 : decode method_12_code 0 = .ok (.aload 5, 2) := by decide +kernel
theorem d_L_verify_2 : decode method_12_code 2 = .ok (.iconst 0, 1) := by decide +kernel
theorem d_L_verify_3 : decode method_12_code 3 = .ok (.aload_n 0, 1) := by decide +kernel
theorem d_L_verify_4 : decode method_12_code 4 = .ok (.iload_n 1, 1) := by decide +kernel
theorem d_L_verify_5 : decode method_12_code 5 = .ok (.iload_n 2, 1) := by decide +kernel
theorem d_L_verify_6 : decode method_12_code 6 = .ok (.iload_n 3, 1) := by decide +kernel
theorem d_L_verify_7 : decode method_12_code 7 = .ok (.iload 4, 2) := by decide +kernel
theorem d_L_verify_9 : decode method_12_code 9 = .ok (.invokevirtual 48, 3) := by decide +kernel
theorem d_L_verify_12 : decode method_12_code 12 = .ok (.i2l, 1) := by decide +kernel
theorem d_L_verify_13 : decode method_12_code 13 = .ok (.lastore, 1) := by decide +kernel
theorem d_L_verify_14 : decode method_12_code 14 = .ok (.goto 7, 3) := by decide +kernel
theorem d_L_verify_17 : decode method_12_code 17 = .ok (.astore 6, 2) := by decide +kernel
theorem d_L_verify_19 : decode method_12_code 19 = .ok (.iconst 1, 1) := by decide +kernel
theorem d_L_verify_20 : decode method_12_code 20 = .ok (.ireturn, 1) := by decide +kernel
theorem d_L_verify_21 : decode method_12_code 21 = .ok (.iconst 0, 1) := by decide +kernel
theorem d_L_verify_22 : decode method_12_code 22 = .ok (.ireturn, 1) := by decide +kernel
theorem d_L_verifyGrowth_0 : decode method_13_code 0 = .ok (.aload 5, 2) := by decide +kernel
theorem d_L_verifyGrowth_2 : decode method_13_code 2 = .ok (.iconst 0, 1) := by decide +kernel
theorem d_L_verifyGrowth_3 : decode method_13_code 3 = .ok (.aload_n 0, 1) := by decide +kernel
theorem d_L_verifyGrowth_4 : decode method_13_code 4 = .ok (.iload_n 1, 1) := by decide +kernel
theorem d_L_verifyGrowth_5 : decode method_13_code 5 = .ok (.iload_n 2, 1) := by decide +kernel
theorem d_L_verifyGrowth_6 : decode method_13_code 6 = .ok (.iload_n 3, 1) := by decide +kernel
theorem d_L_verifyGrowth_7 : decode method_13_code 7 = .ok (.iload 4, 2) := by decide +kernel
theorem d_L_verifyGrowth_9 : decode method_13_code 9 = .ok (.invokevirtual 52, 3) := by decide +kernel
theorem d_L_verifyGrowth_12 : decode method_13_code 12 = .ok (.ifCond .eq 7, 3) := by decide +kernel
theorem d_L_verifyGrowth_15 : decode method_13_code 15 = .ok (.lconst 1, 1) := by decide +kernel
theorem d_L_verifyGrowth_16 : decode method_13_code 16 = .ok (.goto 4, 3) := by decide +kernel
theorem d_L_verifyGrowth_19 : decode method_13_code 19 = .ok (.lconst 0, 1) := by decide +kernel
theorem d_L_verifyGrowth_20 : decode method_13_code 20 = .ok (.lastore, 1) := by decide +kernel
theorem d_L_verifyGrowth_21 : decode method_13_code 21 = .ok (.goto 7, 3) := by decide +kernel
theorem d_L_verifyGrowth_24 : decode method_13_code 24 = .ok (.astore 6, 2) := by decide +kernel
theorem d_L_verifyGrowth_26 : decode method_13_code 26 = .ok (.iconst 1, 1) := by decide +kernel
theorem d_L_verifyGrowth_27 : decode method_13_code 27 = .ok (.ireturn, 1) := by decide +kernel
theorem d_L_verifyGrowth_28 : decode method_13_code 28 = .ok (.iconst 0, 1) := by decide +kernel
theorem d_L_verifyGrowth_29 : decode method_13_code 29 = .ok (.ireturn, 1) := by decide +kernel
