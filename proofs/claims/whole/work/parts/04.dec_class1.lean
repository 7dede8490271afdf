theorem d_K_init_0 : decode prog_1_method_1_code 0 = .ok (.aload_n 0, 1) := by decide +kernel
theorem d_K_init_1 : decode prog_1_method_1_code 1 = .ok (.invokespecial 1, 3) := by decide +kernel
theorem d_K_init_4 : decode prog_1_method_1_code 4 = .ok (.aload_n 0, 1) := by decide +kernel
theorem d_K_init_5 : decode prog_1_method_1_code 5 = .ok (.new 7, 3) := by decide +kernel
theorem d_K_init_8 : decode prog_1_method_1_code 8 = .ok (.dup, 1) := by decide +kernel
theorem d_K_init_9 : decode prog_1_method_1_code 9 = .ok (.invokespecial 9, 3) := by decide +kernel
theorem d_K_init_12 : decode prog_1_method_1_code 12 = .ok (.putfield 10, 3) := by decide +kernel
theorem d_K_init_15 : decode prog_1_method_1_code 15 = .ok (.aload_n 0, 1) := by decide +kernel
theorem d_K_init_16 : decode prog_1_method_1_code 16 = .ok (.new 16, 3) := by decide +kernel
theorem d_K_init_19 : decode prog_1_method_1_code 19 = .ok (.dup, 1) := by decide +kernel
theorem d_K_init_20 : decode prog_1_method_1_code 20 = .ok (.invokespecial 18, 3) := by decide +kernel
theorem d_K_init_23 : decode prog_1_method_1_code 23 = .ok (.putfield 19, 3) := by decide +kernel
theorem d_K_init_26 : decode prog_1_method_1_code 26 = .ok (.aload_n 0, 1) := by decide +kernel
theorem d_K_init_27 : decode prog_1_method_1_code 27 = .ok (.new 23, 3) := by decide +kernel
theorem d_K_init_30 : decode prog_1_method_1_code 30 = .ok (.dup, 1) := by decide +kernel
theorem d_K_init_31 : decode prog_1_method_1_code 31 = .ok (.invokespecial 25, 3) := by decide +kernel
theorem d_K_init_34 : decode prog_1_method_1_code 34 = .ok (.putfield 26, 3) := by decide +kernel
theorem d_K_init_37 : decode prog_1_method_1_code 37 = .ok (.aload_n 0, 1) := by decide +kernel
theorem d_K_init_38 : decode prog_1_method_1_code 38 = .ok (.new 30, 3) := by decide +kernel
theorem d_K_init_41 : decode prog_1_method_1_code 41 = .ok (.dup, 1) := by decide +kernel
theorem d_K_init_42 : decode prog_1_method_1_code 42 = .ok (.invokespecial 32, 3) := by decide +kernel
theorem d_K_init_45 : decode prog_1_method_1_code 45 = .ok (.putfield 33, 3) := by decide +kernel
theorem d_K_init_48 : decode prog_1_method_1_code 48 = .ok (.aload_n 0, 1) := by decide +kernel
theorem d_K_init_49 : decode prog_1_method_1_code 49 = .ok (.new 37, 3) := by decide +kernel
theorem d_K_init_52 : decode prog_1_method_1_code 52 = .ok (.dup, 1) := by decide +kernel
theorem d_K_init_53 : decode prog_1_method_1_code 53 = .ok (.invokespecial 39, 3) := by decide +kernel
theorem d_K_init_56 : decode prog_1_method_1_code 56 = .ok (.putfield 40, 3) := by decide +kernel
theorem d_K_init_59 : decode prog_1_method_1_code 59 = .ok (.aload_n 0, 1) := by decide +kernel
theorem d_K_init_60 : decode prog_1_method_1_code 60 = .ok (.new 44, 3) := by decide +kernel
theorem d_K_init_63 : decode prog_1_method_1_code 63 = .ok (.dup, 1) := by decide +kernel
theorem d_K_init_64 : decode prog_1_method_1_code 64 = .ok (.invokespecial 46, 3) := by decide +kernel
theorem d_K_init_67 : decode prog_1_method_1_code 67 = .ok (.putfield 47, 3) := by decide +kernel
theorem d_K_init_70 : decode prog_1_method_1_code 70 = .ok (.return_, 1) := by decide +kernel
theorem d_S_init_0 : decode prog_7_method_1_code 0 = .ok (.aload_n 0, 1) := by decide +kernel
theorem d_S_init_1 : decode prog_7_method_1_code 1 = .ok (.invokespecial 3, 3) := by decide +kernel
theorem d_S_init_4 : decode prog_7_method_1_code 4 = .ok (.aload_n 0, 1) := by decide +kernel
theorem d_S_init_5 : decode prog_7_method_1_code 5 = .ok (.bipush 48, 2) := by decide +kernel
theorem d_S_init_7 : decode prog_7_method_1_code 7 = .ok (.anewarray 9, 3) := by decide +kernel
theorem d_S_init_10 : decode prog_7_method_1_code 10 = .ok (.putfield 11, 3) := by decide +kernel
theorem d_S_init_13 : decode prog_7_method_1_code 13 = .ok (.aload_n 0, 1) := by decide +kernel
theorem d_S_init_14 : decode prog_7_method_1_code 14 = .ok (.iconst 0, 1) := by decide +kernel
theorem d_S_init_15 : decode prog_7_method_1_code 15 = .ok (.putfield 17, 3) := by decide +kernel
theorem d_S_init_18 : decode prog_7_method_1_code 18 = .ok (.aload_n 0, 1) := by decide +kernel
theorem d_S_init_19 : decode prog_7_method_1_code 19 = .ok (.iconst 0, 1) := by decide +kernel
theorem d_S_init_20 : decode prog_7_method_1_code 20 = .ok (.putfield 21, 3) := by decide +kernel
theorem d_S_init_23 : decode prog_7_method_1_code 23 = .ok (.return_, 1) := by decide +kernel
theorem d_H_init_0 : decode prog_4_method_1_code 0 = .ok (.aload_n 0, 1) := by decide +kernel
theorem d_H_init_1 : decode prog_4_method_1_code 1 = .ok (.invokespecial 3, 3) := by decide +kernel
theorem d_H_init_4 : decode prog_4_method_1_code 4 = .ok (.aload_n 0, 1) := by decide +kernel
theorem d_H_init_5 : decode prog_4_method_1_code 5 = .ok (.bipush 16, 2) := by decide +kernel
theorem d_H_init_7 : decode prog_4_method_1_code 7 = .ok (.anewarray 9, 3) := by decide +kernel
theorem d_H_init_10 : decode prog_4_method_1_code 10 = .ok (.putfield 11, 3) := by decide +kernel
theorem d_H_init_13 : decode prog_4_method_1_code 13 = .ok (.aload_n 0, 1) := by decide +kernel
theorem d_H_init_14 : decode prog_4_method_1_code 14 = .ok (.iconst 1, 1) := by decide +kernel
theorem d_H_init_15 : decode prog_4_method_1_code 15 = .ok (.putfield 17, 3) := by decide +kernel
theorem d_H_init_18 : decode prog_4_method_1_code 18 = .ok (.return_, 1) := by decide +kernel
theorem d_T_init_0 : decode prog_8_method_1_code 0 = .ok (.aload_n 0, 1) := by decide +kernel
theorem d_T_init_1 : decode prog_8_method_1_code 1 = .ok (.invokespecial 3, 3) := by decide +kernel
theorem d_T_init_4 : decode prog_8_method_1_code 4 = .ok (.aload_n 0, 1) := by decide +kernel
theorem d_T_init_5 : decode prog_8_method_1_code 5 = .ok (.bipush 48, 2) := by decide +kernel
theorem d_T_init_7 : decode prog_8_method_1_code 7 = .ok (.newarray .boolean, 2) := by decide +kernel
theorem d_T_init_9 : decode prog_8_method_1_code 9 = .ok (.putfield 9, 3) := by decide +kernel
theorem d_T_init_12 : decode prog_8_method_1_code 12 = .ok (.aload_n 0, 1) := by decide +kernel
theorem d_T_init_13 : decode prog_8_method_1_code 13 = .ok (.bipush 48, 2) := by decide +kernel
theorem d_T_init_15 : decode prog_8_method_1_code 15 = .ok (.newarray .int, 2) := by decide +kernel
theorem d_T_init_17 : decode prog_8_method_1_code 17 = .ok (.putfield 15, 3) := by decide +kernel
theorem d_T_init_20 : decode prog_8_method_1_code 20 = .ok (.return_, 1) := by decide +kernel
theorem d_R_init_0 : decode prog_6_method_1_code 0 = .ok (.aload_n 0, 1) := by decide +kernel
theorem d_R_init_1 : decode prog_6_method_1_code 1 = .ok (.invokespecial 3, 3) := by decide +kernel
theorem d_R_init_4 : decode prog_6_method_1_code 4 = .ok (.aload_n 0, 1) := by decide +kernel
theorem d_R_init_5 : decode prog_6_method_1_code 5 = .ok (.bipush 48, 2) := by decide +kernel
theorem d_R_init_7 : decode prog_6_method_1_code 7 = .ok (.newarray .int, 2) := by decide +kernel
theorem d_R_init_9 : decode prog_6_method_1_code 9 = .ok (.putfield 9, 3) := by decide +kernel
theorem d_R_init_12 : decode prog_6_method_1_code 12 = .ok (.aload_n 0, 1) := by decide +kernel
theorem d_R_init_13 : decode prog_6_method_1_code 13 = .ok (.bipush 48, 2) := by decide +kernel
theorem d_R_init_15 : decode prog_6_method_1_code 15 = .ok (.newarray .int, 2) := by decide +kernel
theorem d_R_init_17 : decode prog_6_method_1_code 17 = .ok (.putfield 15, 3) := by decide +kernel
theorem d_R_init_20 : decode prog_6_method_1_code 20 = .ok (.aload_n 0, 1) := by decide +kernel
theorem d_R_init_21 : decode prog_6_method_1_code 21 = .ok (.bipush 48, 2) := by decide +kernel
theorem d_R_init_23 : decode prog_6_method_1_code 23 = .ok (.anewarray 18, 3) := by decide +kernel
theorem d_R_init_26 : decode prog_6_method_1_code 26 = .ok (.putfield 20, 3) := by decide +kernel
theorem d_R_init_29 : decode prog_6_method_1_code 29 = .ok (.aload_n 0, 1) := by decide +kernel
theorem d_R_init_30 : decode prog_6_method_1_code 30 = .ok (.iconst 0, 1) := by decide +kernel
theorem d_R_init_31 : decode prog_6_method_1_code 31 = .ok (.putfield 24, 3) := by decide +kernel
theorem d_R_init_34 : decode prog_6_method_1_code 34 = .ok (.return_, 1) := by decide +kernel
theorem d_P_init_0 : decode prog_5_method_1_code 0 = .ok (.aload_n 0, 1) := by decide +kernel
theorem d_P_init_1 : decode prog_5_method_1_code 1 = .ok (.invokespecial 1, 3) := by decide +kernel
theorem d_P_init_4 : decode prog_5_method_1_code 4 = .ok (.aload_n 0, 1) := by decide +kernel
theorem d_P_init_5 : decode prog_5_method_1_code 5 = .ok (.new 7, 3) := by decide +kernel
theorem d_P_init_8 : decode prog_5_method_1_code 8 = .ok (.dup, 1) := by decide +kernel
theorem d_P_init_9 : decode prog_5_method_1_code 9 = .ok (.invokespecial 9, 3) := by decide +kernel
theorem d_P_init_12 : decode prog_5_method_1_code 12 = .ok (.putfield 10, 3) := by decide +kernel
theorem d_P_init_15 : decode prog_5_method_1_code 15 = .ok (.return_, 1) := by decide +kernel
theorem d_B_init_0 : decode prog_2_method_1_code 0 = .ok (.aload_n 0, 1) := by decide +kernel
theorem d_B_init_1 : decode prog_2_method_1_code 1 = .ok (.invokespecial 3, 3) := by decide +kernel
theorem d_B_init_4 : decode prog_2_method_1_code 4 = .ok (.aload_n 0, 1) := by decide +kernel
theorem d_B_init_5 : decode prog_2_method_1_code 5 = .ok (.sipush 400, 3) := by decide +kernel
theorem d_B_init_8 : decode prog_2_method_1_code 8 = .ok (.newarray .int, 2) := by decide +kernel
theorem d_B_init_10 : decode prog_2_method_1_code 10 = .ok (.putfield 9, 3) := by decide +kernel
theorem d_B_init_13 : decode prog_2_method_1_code 13 = .ok (.aload_n 0, 1) := by decide +kernel
theorem d_B_init_14 : decode prog_2_method_1_code 14 = .ok (.iconst 0, 1) := by decide +kernel
theorem d_B_init_15 : decode prog_2_method_1_code 15 = .ok (.putfield 15, 3) := by decide +kernel
theorem d_B_init_18 : decode prog_2_method_1_code 18 = .ok (.return_, 1) := by decide +kernel
theorem d_V_init_0 : decode prog_9_method_1_code 0 = .ok (.aload_n 0, 1) := by decide +kernel
theorem d_V_init_1 : decode prog_9_method_1_code 1 = .ok (.invokespecial 3, 3) := by decide +kernel
theorem d_V_init_4 : decode prog_9_method_1_code 4 = .ok (.aload_n 0, 1) := by decide +kernel
theorem d_V_init_5 : decode prog_9_method_1_code 5 = .ok (.new 9, 3) := by decide +kernel
theorem d_V_init_8 : decode prog_9_method_1_code 8 = .ok (.dup, 1) := by decide +kernel
theorem d_V_init_9 : decode prog_9_method_1_code 9 = .ok (.invokespecial 11, 3) := by decide +kernel
theorem d_V_init_12 : decode prog_9_method_1_code 12 = .ok (.putfield 12, 3) := by decide +kernel
theorem d_V_init_15 : decode prog_9_method_1_code 15 = .ok (.aload_n 0, 1) := by decide +kernel
theorem d_V_init_16 : decode prog_9_method_1_code 16 = .ok (.iconst 0, 1) := by decide +kernel
theorem d_V_init_17 : decode prog_9_method_1_code 17 = .ok (.putfield 18, 3) := by decide +kernel
theorem d_V_init_20 : decode prog_9_method_1_code 20 = .ok (.aload_n 0, 1) := by decide +kernel
theorem d_V_init_21 : decode prog_9_method_1_code 21 = .ok (.iconst 0, 1) := by decide +kernel
theorem d_V_init_22 : decode prog_9_method_1_code 22 = .ok (.putfield 22, 3) := by decide +kernel
theorem d_V_init_25 : decode prog_9_method_1_code 25 = .ok (.aload_n 0, 1) := by decide +kernel
theorem d_V_init_26 : decode prog_9_method_1_code 26 = .ok (.iconst 0, 1) := by decide +kernel
theorem d_V_init_27 : decode prog_9_method_1_code 27 = .ok (.putfield 25, 3) := by decide +kernel
theorem d_V_init_30 : decode prog_9_method_1_code 30 = .ok (.aload_n 0, 1) := by decide +kernel
theorem d_V_init_31 : decode prog_9_method_1_code 31 = .ok (.iconst 0, 1) := by decide +kernel
theorem d_V_init_32 : decode prog_9_method_1_code 32 = .ok (.putfield 28, 3) := by decide +kernel
theorem d_V_init_35 : decode prog_9_method_1_code 35 = .ok (.aload_n 0, 1) := by decide +kernel
theorem d_V_init_36 : decode prog_9_method_1_code 36 = .ok (.iconst 0, 1) := by decide +kernel
theorem d_V_init_37 : decode prog_9_method_1_code 37 = .ok (.putfield 31, 3) := by decide +kernel
theorem d_V_init_40 : decode prog_9_method_1_code 40 = .ok (.aload_n 0, 1) := by decide +kernel
theorem d_V_init_41 : decode prog_9_method_1_code 41 = .ok (.iconst (-1), 1) := by decide +kernel
theorem d_V_init_42 : decode prog_9_method_1_code 42 = .ok (.putfield 34, 3) := by decide +kernel
theorem d_V_init_45 : decode prog_9_method_1_code 45 = .ok (.aload_n 0, 1) := by decide +kernel
theorem d_V_init_46 : decode prog_9_method_1_code 46 = .ok (.iconst (-1), 1) := by decide +kernel
theorem d_V_init_47 : decode prog_9_method_1_code 47 = .ok (.putfield 37, 3) := by decide +kernel
theorem d_V_init_50 : decode prog_9_method_1_code 50 = .ok (.aload_n 0, 1) := by decide +kernel
theorem d_V_init_51 : decode prog_9_method_1_code 51 = .ok (.iconst 0, 1) := by decide +kernel
theorem d_V_init_52 : decode prog_9_method_1_code 52 = .ok (.putfield 40, 3) := by decide +kernel
theorem d_V_init_55 : decode prog_9_method_1_code 55 = .ok (.aload_n 0, 1) := by decide +kernel
theorem d_V_init_56 : decode prog_9_method_1_code 56 = .ok (.iconst 0, 1) := by decide +kernel
theorem d_V_init_57 : decode prog_9_method_1_code 57 = .ok (.putfield 43, 3) := by decide +kernel
theorem d_V_init_60 : decode prog_9_method_1_code 60 = .ok (.aload_n 0, 1) := by decide +kernel
theorem d_V_init_61 : decode prog_9_method_1_code 61 = .ok (.iconst 0, 1) := by decide +kernel
theorem d_V_init_62 : decode prog_9_method_1_code 62 = .ok (.putfield 46, 3) := by decide +kernel
theorem d_V_init_65 : decode prog_9_method_1_code 65 = .ok (.return_, 1) := by decide +kernel
theorem d_K_rollback_0 : decode prog_1_method_5_code 0 = .ok (.aload_n 0, 1) := by decide +kernel
theorem d_K_rollback_1 : decode prog_1_method_5_code 1 = .ok (.getfield 26, 3) := by decide +kernel
theorem d_K_rollback_4 : decode prog_1_method_5_code 4 = .ok (.aload_n 0, 1) := by decide +kernel
theorem d_K_rollback_5 : decode prog_1_method_5_code 5 = .ok (.getfield 19, 3) := by decide +kernel
theorem d_K_rollback_8 : decode prog_1_method_5_code 8 = .ok (.getfield 93, 3) := by decide +kernel
theorem d_K_rollback_11 : decode prog_1_method_5_code 11 = .ok (.aload_n 0, 1) := by decide +kernel
theorem d_K_rollback_12 : decode prog_1_method_5_code 12 = .ok (.getfield 19, 3) := by decide +kernel
theorem d_K_rollback_15 : decode prog_1_method_5_code 15 = .ok (.getfield 89, 3) := by decide +kernel
theorem d_K_rollback_18 : decode prog_1_method_5_code 18 = .ok (.iconst 1, 1) := by decide +kernel
theorem d_K_rollback_19 : decode prog_1_method_5_code 19 = .ok (.isub, 1) := by decide +kernel
theorem d_K_rollback_20 : decode prog_1_method_5_code 20 = .ok (.aaload, 1) := by decide +kernel
theorem d_K_rollback_21 : decode prog_1_method_5_code 21 = .ok (.invokevirtual 97, 3) := by decide +kernel
theorem d_K_rollback_24 : decode prog_1_method_5_code 24 = .ok (.return_, 1) := by decide +kernel
theorem d_T_load_0 : decode prog_8_method_4_code 0 = .ok (.iconst 0, 1) := by decide +kernel
theorem d_T_load_1 : decode prog_8_method_4_code 1 = .ok (.istore_n 2, 1) := by decide +kernel
theorem d_T_load_2 : decode prog_8_method_4_code 2 = .ok (.iload_n 2, 1) := by decide +kernel
theorem d_T_load_3 : decode prog_8_method_4_code 3 = .ok (.bipush 48, 2) := by decide +kernel
theorem d_T_load_5 : decode prog_8_method_4_code 5 = .ok (.if_icmp .ge 37, 3) := by decide +kernel
theorem d_T_load_8 : decode prog_8_method_4_code 8 = .ok (.aload_n 1, 1) := by decide +kernel
theorem d_T_load_9 : decode prog_8_method_4_code 9 = .ok (.iload_n 2, 1) := by decide +kernel
theorem d_T_load_10 : decode prog_8_method_4_code 10 = .ok (.invokestatic 19, 3) := by decide +kernel
theorem d_T_load_13 : decode prog_8_method_4_code 13 = .ok (.astore_n 3, 1) := by decide +kernel
theorem d_T_load_14 : decode prog_8_method_4_code 14 = .ok (.aload_n 0, 1) := by decide +kernel
theorem d_T_load_15 : decode prog_8_method_4_code 15 = .ok (.getfield 9, 3) := by decide +kernel
theorem d_T_load_18 : decode prog_8_method_4_code 18 = .ok (.iload_n 2, 1) := by decide +kernel
theorem d_T_load_19 : decode prog_8_method_4_code 19 = .ok (.aload_n 3, 1) := by decide +kernel
theorem d_T_load_20 : decode prog_8_method_4_code 20 = .ok (.iload_n 2, 1) := by decide +kernel
theorem d_T_load_21 : decode prog_8_method_4_code 21 = .ok (.invokestatic 23, 3) := by decide +kernel
theorem d_T_load_24 : decode prog_8_method_4_code 24 = .ok (.bastore, 1) := by decide +kernel
theorem d_T_load_25 : decode prog_8_method_4_code 25 = .ok (.aload_n 0, 1) := by decide +kernel
theorem d_T_load_26 : decode prog_8_method_4_code 26 = .ok (.getfield 15, 3) := by decide +kernel
theorem d_T_load_29 : decode prog_8_method_4_code 29 = .ok (.iload_n 2, 1) := by decide +kernel
theorem d_T_load_30 : decode prog_8_method_4_code 30 = .ok (.aload_n 3, 1) := by decide +kernel
theorem d_T_load_31 : decode prog_8_method_4_code 31 = .ok (.iload_n 2, 1) := by decide +kernel
theorem d_T_load_32 : decode prog_8_method_4_code 32 = .ok (.invokestatic 27, 3) := by decide +kernel
theorem d_T_load_35 : decode prog_8_method_4_code 35 = .ok (.iastore, 1) := by decide +kernel
theorem d_T_load_36 : decode prog_8_method_4_code 36 = .ok (.iinc 2 1, 3) := by decide +kernel
theorem d_T_load_39 : decode prog_8_method_4_code 39 = .ok (.goto (-37), 3) := by decide +kernel
theorem d_T_load_42 : decode prog_8_method_4_code 42 = .ok (.return_, 1) := by decide +kernel
theorem d_K_bottomFor_0 : decode prog_1_method_31_code 0 = .ok (.aconst_null, 1) := by decide +kernel
theorem d_K_bottomFor_1 : decode prog_1_method_31_code 1 = .ok (.astore_n 2, 1) := by decide +kernel
theorem d_K_bottomFor_2 : decode prog_1_method_31_code 2 = .ok (.aload_n 0, 1) := by decide +kernel
theorem d_K_bottomFor_3 : decode prog_1_method_31_code 3 = .ok (.astore_n 3, 1) := by decide +kernel
theorem d_K_bottomFor_4 : decode prog_1_method_31_code 4 = .ok (.aload_n 3, 1) := by decide +kernel
theorem d_K_bottomFor_5 : decode prog_1_method_31_code 5 = .ok (.ifnull 14, 3) := by decide +kernel
theorem d_K_bottomFor_8 : decode prog_1_method_31_code 8 = .ok (.aload_n 3, 1) := by decide +kernel
theorem d_K_bottomFor_9 : decode prog_1_method_31_code 9 = .ok (.astore_n 2, 1) := by decide +kernel
theorem d_K_bottomFor_10 : decode prog_1_method_31_code 10 = .ok (.aload_n 3, 1) := by decide +kernel
theorem d_K_bottomFor_11 : decode prog_1_method_31_code 11 = .ok (.iload_n 1, 1) := by decide +kernel
theorem d_K_bottomFor_12 : decode prog_1_method_31_code 12 = .ok (.invokevirtual 216, 3) := by decide +kernel
theorem d_K_bottomFor_15 : decode prog_1_method_31_code 15 = .ok (.astore_n 3, 1) := by decide +kernel
theorem d_K_bottomFor_16 : decode prog_1_method_31_code 16 = .ok (.goto (-12), 3) := by decide +kernel
theorem d_K_bottomFor_19 : decode prog_1_method_31_code 19 = .ok (.aload_n 2, 1) := by decide +kernel
theorem d_K_bottomFor_20 : decode prog_1_method_31_code 20 = .ok (.areturn, 1) := by decide +kernel
theorem d_C_under_0 : decode prog_3_method_3_code 0 = .ok (.aload_n 0, 1) := by decide +kernel
theorem d_C_under_1 : decode prog_3_method_3_code 1 = .ok (.getfield 37, 3) := by decide +kernel
theorem d_C_under_4 : decode prog_3_method_3_code 4 = .ok (.aload_n 0, 1) := by decide +kernel
theorem d_C_under_5 : decode prog_3_method_3_code 5 = .ok (.iload_n 1, 1) := by decide +kernel
theorem d_C_under_6 : decode prog_3_method_3_code 6 = .ok (.invokevirtual 42, 3) := by decide +kernel
theorem d_C_under_9 : decode prog_3_method_3_code 9 = .ok (.aaload, 1) := by decide +kernel
theorem d_C_under_10 : decode prog_3_method_3_code 10 = .ok (.areturn, 1) := by decide +kernel
theorem d_C_placeFor_0 : decode prog_3_method_2_code 0 = .ok (.iconst 0, 1) := by decide +kernel
theorem d_C_placeFor_1 : decode prog_3_method_2_code 1 = .ok (.istore_n 2, 1) := by decide +kernel
theorem d_C_placeFor_2 : decode prog_3_method_2_code 2 = .ok (.iload_n 2, 1) := by decide +kernel
theorem d_C_placeFor_3 : decode prog_3_method_2_code 3 = .ok (.aload_n 0, 1) := by decide +kernel
theorem d_C_placeFor_4 : decode prog_3_method_2_code 4 = .ok (.getfield 32, 3) := by decide +kernel
theorem d_C_placeFor_7 : decode prog_3_method_2_code 7 = .ok (.arraylength, 1) := by decide +kernel
theorem d_C_placeFor_8 : decode prog_3_method_2_code 8 = .ok (.iconst 1, 1) := by decide +kernel
theorem d_C_placeFor_9 : decode prog_3_method_2_code 9 = .ok (.isub, 1) := by decide +kernel
theorem d_C_placeFor_10 : decode prog_3_method_2_code 10 = .ok (.if_icmp .ge 19, 3) := by decide +kernel
theorem d_C_placeFor_13 : decode prog_3_method_2_code 13 = .ok (.aload_n 0, 1) := by decide +kernel
theorem d_C_placeFor_14 : decode prog_3_method_2_code 14 = .ok (.getfield 32, 3) := by decide +kernel
theorem d_C_placeFor_17 : decode prog_3_method_2_code 17 = .ok (.iload_n 2, 1) := by decide +kernel
theorem d_C_placeFor_18 : decode prog_3_method_2_code 18 = .ok (.iaload, 1) := by decide +kernel
theorem d_C_placeFor_19 : decode prog_3_method_2_code 19 = .ok (.iload_n 1, 1) := by decide +kernel
theorem d_C_placeFor_20 : decode prog_3_method_2_code 20 = .ok (.if_icmp .ge 9, 3) := by decide +kernel
theorem d_C_placeFor_23 : decode prog_3_method_2_code 23 = .ok (.iinc 2 1, 3) := by decide +kernel
theorem d_C_placeFor_26 : decode prog_3_method_2_code 26 = .ok (.goto (-24), 3) := by decide +kernel
theorem d_C_placeFor_29 : decode prog_3_method_2_code 29 = .ok (.iload_n 2, 1) := by decide +kernel
theorem d_C_placeFor_30 : decode prog_3_method_2_code 30 = .ok (.ireturn, 1) := by decide +kernel
theorem d_K_holds_0 : decode prog_1_method_32_code 0 = .ok (.aload_n 0, 1) := by decide +kernel
theorem d_K_holds_1 : decode prog_1_method_32_code 1 = .ok (.ifnull 21, 3) := by decide +kernel
theorem d_K_holds_4 : decode prog_1_method_32_code 4 = .ok (.aload_n 0, 1) := by decide +kernel
theorem d_K_holds_5 : decode prog_1_method_32_code 5 = .ok (.getfield 222, 3) := by decide +kernel
theorem d_K_holds_8 : decode prog_1_method_32_code 8 = .ok (.aload_n 0, 1) := by decide +kernel
theorem d_K_holds_9 : decode prog_1_method_32_code 9 = .ok (.iload_n 1, 1) := by decide +kernel
theorem d_K_holds_10 : decode prog_1_method_32_code 10 = .ok (.invokevirtual 225, 3) := by decide +kernel
theorem d_K_holds_13 : decode prog_1_method_32_code 13 = .ok (.iaload, 1) := by decide +kernel
theorem d_K_holds_14 : decode prog_1_method_32_code 14 = .ok (.iload_n 1, 1) := by decide +kernel
theorem d_K_holds_15 : decode prog_1_method_32_code 15 = .ok (.if_icmp .ne 7, 3) := by decide +kernel
theorem d_K_holds_18 : decode prog_1_method_32_code 18 = .ok (.iconst 1, 1) := by decide +kernel
theorem d_K_holds_19 : decode prog_1_method_32_code 19 = .ok (.goto 4, 3) := by decide +kernel
theorem d_K_holds_22 : decode prog_1_method_32_code 22 = .ok (.iconst 0, 1) := by decide +kernel
theorem d_K_holds_23 : decode prog_1_method_32_code 23 = .ok (.ireturn, 1) := by decide +kernel
theorem d_K_valueIn_0 : decode prog_1_method_33_code 0 = .ok (.aload_n 0, 1) := by decide +kernel
theorem d_K_valueIn_1 : decode prog_1_method_33_code 1 = .ok (.ifnonnull 7, 3) := by decide +kernel
theorem d_K_valueIn_4 : decode prog_1_method_33_code 4 = .ok (.iconst 0, 1) := by decide +kernel
theorem d_K_valueIn_5 : decode prog_1_method_33_code 5 = .ok (.goto 13, 3) := by decide +kernel
theorem d_K_valueIn_8 : decode prog_1_method_33_code 8 = .ok (.aload_n 0, 1) := by decide +kernel
theorem d_K_valueIn_9 : decode prog_1_method_33_code 9 = .ok (.getfield 228, 3) := by decide +kernel
theorem d_K_valueIn_12 : decode prog_1_method_33_code 12 = .ok (.aload_n 0, 1) := by decide +kernel
theorem d_K_valueIn_13 : decode prog_1_method_33_code 13 = .ok (.iload_n 1, 1) := by decide +kernel
theorem d_K_valueIn_14 : decode prog_1_method_33_code 14 = .ok (.invokevirtual 225, 3) := by decide +kernel
theorem d_K_valueIn_17 : decode prog_1_method_33_code 17 = .ok (.iaload, 1) := by decide +kernel
theorem d_K_valueIn_18 : decode prog_1_method_33_code 18 = .ok (.ireturn, 1) := by decide +kernel
theorem d_K_fail_0 : decode prog_1_method_6_code 0 = .ok (.iload_n 1, 1) := by decide +kernel
theorem d_K_fail_1 : decode prog_1_method_6_code 1 = .ok (.iconst 1, 1) := by decide +kernel
theorem d_K_fail_2 : decode prog_1_method_6_code 2 = .ok (.if_icmp .lt 9, 3) := by decide +kernel
theorem d_K_fail_5 : decode prog_1_method_6_code 5 = .ok (.iload_n 1, 1) := by decide +kernel
theorem d_K_fail_6 : decode prog_1_method_6_code 6 = .ok (.bipush 40, 2) := by decide +kernel
theorem d_K_fail_8 : decode prog_1_method_6_code 8 = .ok (.if_icmp .le 5, 3) := by decide +kernel
theorem d_K_fail_11 : decode prog_1_method_6_code 11 = .ok (.iconst 0, 1) := by decide +kernel
theorem d_K_fail_12 : decode prog_1_method_6_code 12 = .ok (.ireturn, 1) := by decide +kernel
theorem d_K_fail_13 : decode prog_1_method_6_code 13 = .ok (.aload_n 0, 1) := by decide +kernel
theorem d_K_fail_14 : decode prog_1_method_6_code 14 = .ok (.getfield 10, 3) := by decide +kernel
theorem d_K_fail_17 : decode prog_1_method_6_code 17 = .ok (.iload_n 1, 1) := by decide +kernel
theorem d_K_fail_18 : decode prog_1_method_6_code 18 = .ok (.putfield 100, 3) := by decide +kernel
theorem d_K_fail_21 : decode prog_1_method_6_code 21 = .ok (.iconst 1, 1) := by decide +kernel
theorem d_K_fail_22 : decode prog_1_method_6_code 22 = .ok (.ireturn, 1) := by decide +kernel
theorem d_K_chunks_0 : decode prog_1_method_7_code 0 = .ok (.aload_n 0, 1) := by decide +kernel
theorem d_K_chunks_1 : decode prog_1_method_7_code 1 = .ok (.getfield 10, 3) := by decide +kernel
theorem d_K_chunks_4 : decode prog_1_method_7_code 4 = .ok (.getfield 103, 3) := by decide +kernel
theorem d_K_chunks_7 : decode prog_1_method_7_code 7 = .ok (.ireturn, 1) := by decide +kernel
theorem d_K_versions_0 : decode prog_1_method_8_code 0 = .ok (.aload_n 0, 1) := by decide +kernel
theorem d_K_versions_1 : decode prog_1_method_8_code 1 = .ok (.getfield 19, 3) := by decide +kernel
theorem d_K_versions_4 : decode prog_1_method_8_code 4 = .ok (.getfield 89, 3) := by decide +kernel
theorem d_K_versions_7 : decode prog_1_method_8_code 7 = .ok (.ireturn, 1) := by decide +kernel
theorem d_K_proof_0 : decode prog_1_method_15_code 0 = .ok (.aload_n 0, 1) := by decide +kernel
theorem d_K_proof_1 : decode prog_1_method_15_code 1 = .ok (.getfield 40, 3) := by decide +kernel
theorem d_K_proof_4 : decode prog_1_method_15_code 4 = .ok (.getfield 154, 3) := by decide +kernel
theorem d_K_proof_7 : decode prog_1_method_15_code 7 = .ok (.iload_n 1, 1) := by decide +kernel
theorem d_K_proof_8 : decode prog_1_method_15_code 8 = .ok (.invokevirtual 165, 3) := by decide +kernel
theorem d_K_proof_11 : decode prog_1_method_15_code 11 = .ok (.ireturn, 1) := by decide +kernel
theorem d_B_at_0 : decode prog_2_method_3_code 0 = .ok (.iload_n 1, 1) := by decide +kernel
theorem d_B_at_1 : decode prog_2_method_3_code 1 = .ok (.ifCond .lt 20, 3) := by decide +kernel
theorem d_B_at_4 : decode prog_2_method_3_code 4 = .ok (.iload_n 1, 1) := by decide +kernel
theorem d_B_at_5 : decode prog_2_method_3_code 5 = .ok (.aload_n 0, 1) := by decide +kernel
theorem d_B_at_6 : decode prog_2_method_3_code 6 = .ok (.getfield 15, 3) := by decide +kernel
theorem d_B_at_9 : decode prog_2_method_3_code 9 = .ok (.if_icmp .ge 12, 3) := by decide +kernel
theorem d_B_at_12 : decode prog_2_method_3_code 12 = .ok (.aload_n 0, 1) := by decide +kernel
theorem d_B_at_13 : decode prog_2_method_3_code 13 = .ok (.getfield 9, 3) := by decide +kernel
theorem d_B_at_16 : decode prog_2_method_3_code 16 = .ok (.iload_n 1, 1) := by decide +kernel
theorem d_B_at_17 : decode prog_2_method_3_code 17 = .ok (.iaload, 1) := by decide +kernel
theorem d_B_at_18 : decode prog_2_method_3_code 18 = .ok (.goto 4, 3) := by decide +kernel
theorem d_B_at_21 : decode prog_2_method_3_code 21 = .ok (.iconst (-1), 1) := by decide +kernel
theorem d_B_at_22 : decode prog_2_method_3_code 22 = .ok (.ireturn, 1) := by decide +kernel
theorem d_K_take_0 : decode prog_1_method_16_code 0 = .ok (.iload_n 2, 1) := by decide +kernel
theorem d_K_take_1 : decode prog_1_method_16_code 1 = .ok (.iconst 1, 1) := by decide +kernel
theorem d_K_take_2 : decode prog_1_method_16_code 2 = .ok (.if_icmp .lt 26, 3) := by decide +kernel
theorem d_K_take_5 : decode prog_1_method_16_code 5 = .ok (.iload_n 2, 1) := by decide +kernel
theorem d_K_take_6 : decode prog_1_method_16_code 6 = .ok (.iconst 4, 1) := by decide +kernel
theorem d_K_take_7 : decode prog_1_method_16_code 7 = .ok (.if_icmp .gt 21, 3) := by decide +kernel
theorem d_K_take_10 : decode prog_1_method_16_code 10 = .ok (.aload_n 0, 1) := by decide +kernel
theorem d_K_take_11 : decode prog_1_method_16_code 11 = .ok (.getfield 47, 3) := by decide +kernel
theorem d_K_take_14 : decode prog_1_method_16_code 14 = .ok (.getfield 168, 3) := by decide +kernel
theorem d_K_take_17 : decode prog_1_method_16_code 17 = .ok (.getfield 158, 3) := by decide +kernel
theorem d_K_take_20 : decode prog_1_method_16_code 20 = .ok (.iload_n 2, 1) := by decide +kernel
theorem d_K_take_21 : decode prog_1_method_16_code 21 = .ok (.iadd, 1) := by decide +kernel
theorem d_K_take_22 : decode prog_1_method_16_code 22 = .ok (.sipush 400, 3) := by decide +kernel
theorem d_K_take_25 : decode prog_1_method_16_code 25 = .ok (.if_icmp .le 5, 3) := by decide +kernel
theorem d_K_take_28 : decode prog_1_method_16_code 28 = .ok (.iconst 0, 1) := by decide +kernel
theorem d_K_take_29 : decode prog_1_method_16_code 29 = .ok (.ireturn, 1) := by decide +kernel
theorem d_K_take_30 : decode prog_1_method_16_code 30 = .ok (.aload_n 0, 1) := by decide +kernel
theorem d_K_take_31 : decode prog_1_method_16_code 31 = .ok (.getfield 47, 3) := by decide +kernel
theorem d_K_take_34 : decode prog_1_method_16_code 34 = .ok (.getfield 168, 3) := by decide +kernel
theorem d_K_take_37 : decode prog_1_method_16_code 37 = .ok (.iload_n 1, 1) := by decide +kernel
theorem d_K_take_38 : decode prog_1_method_16_code 38 = .ok (.iload_n 2, 1) := by decide +kernel
theorem d_K_take_39 : decode prog_1_method_16_code 39 = .ok (.invokevirtual 169, 3) := by decide +kernel
theorem d_K_take_42 : decode prog_1_method_16_code 42 = .ok (.iconst 1, 1) := by decide +kernel
theorem d_K_take_43 : decode prog_1_method_16_code 43 = .ok (.ireturn, 1) := by decide +kernel
theorem d_B_append_0 : decode prog_2_method_4_code 0 = .ok (.bipush 8, 2) := by decide +kernel
theorem d_B_append_2 : decode prog_2_method_4_code 2 = .ok (.iload_n 2, 1) := by decide +kernel
theorem d_B_append_3 : decode prog_2_method_4_code 3 = .ok (.iconst 1, 1) := by decide +kernel
theorem d_B_append_4 : decode prog_2_method_4_code 4 = .ok (.isub, 1) := by decide +kernel
theorem d_B_append_5 : decode prog_2_method_4_code 5 = .ok (.imul, 1) := by decide +kernel
theorem d_B_append_6 : decode prog_2_method_4_code 6 = .ok (.istore_n 3, 1) := by decide +kernel
theorem d_B_append_7 : decode prog_2_method_4_code 7 = .ok (.iload_n 3, 1) := by decide +kernel
theorem d_B_append_8 : decode prog_2_method_4_code 8 = .ok (.ifCond .lt 45, 3) := by decide +kernel
theorem d_B_append_11 : decode prog_2_method_4_code 11 = .ok (.aload_n 0, 1) := by decide +kernel
theorem d_B_append_12 : decode prog_2_method_4_code 12 = .ok (.getfield 15, 3) := by decide +kernel
theorem d_B_append_15 : decode prog_2_method_4_code 15 = .ok (.sipush 400, 3) := by decide +kernel
theorem d_B_append_18 : decode prog_2_method_4_code 18 = .ok (.if_icmp .ge 29, 3) := by decide +kernel
theorem d_B_append_21 : decode prog_2_method_4_code 21 = .ok (.aload_n 0, 1) := by decide +kernel
theorem d_B_append_22 : decode prog_2_method_4_code 22 = .ok (.getfield 9, 3) := by decide +kernel
theorem d_B_append_25 : decode prog_2_method_4_code 25 = .ok (.aload_n 0, 1) := by decide +kernel
theorem d_B_append_26 : decode prog_2_method_4_code 26 = .ok (.getfield 15, 3) := by decide +kernel
theorem d_B_append_29 : decode prog_2_method_4_code 29 = .ok (.iload_n 1, 1) := by decide +kernel
theorem d_B_append_30 : decode prog_2_method_4_code 30 = .ok (.iload_n 3, 1) := by decide +kernel
theorem d_B_append_31 : decode prog_2_method_4_code 31 = .ok (.iushr, 1) := by decide +kernel
theorem d_B_append_32 : decode prog_2_method_4_code 32 = .ok (.sipush 255, 3) := by decide +kernel
theorem d_B_append_35 : decode prog_2_method_4_code 35 = .ok (.iand, 1) := by decide +kernel
theorem d_B_append_36 : decode prog_2_method_4_code 36 = .ok (.iastore, 1) := by decide +kernel
theorem d_B_append_37 : decode prog_2_method_4_code 37 = .ok (.aload_n 0, 1) := by decide +kernel
theorem d_B_append_38 : decode prog_2_method_4_code 38 = .ok (.dup, 1) := by decide +kernel
theorem d_B_append_39 : decode prog_2_method_4_code 39 = .ok (.getfield 15, 3) := by decide +kernel
theorem d_B_append_42 : decode prog_2_method_4_code 42 = .ok (.iconst 1, 1) := by decide +kernel
theorem d_B_append_43 : decode prog_2_method_4_code 43 = .ok (.iadd, 1) := by decide +kernel
theorem d_B_append_44 : decode prog_2_method_4_code 44 = .ok (.putfield 15, 3) := by decide +kernel
theorem d_B_append_47 : decode prog_2_method_4_code 47 = .ok (.iinc 3 (-8), 3) := by decide +kernel
theorem d_B_append_50 : decode prog_2_method_4_code 50 = .ok (.goto (-43), 3) := by decide +kernel
theorem d_B_append_53 : decode prog_2_method_4_code 53 = .ok (.return_, 1) := by decide +kernel
theorem d_K_carry_0 : decode prog_1_method_17_code 0 = .ok (.aload_n 0, 1) := by decide +kernel
theorem d_K_carry_1 : decode prog_1_method_17_code 1 = .ok (.getfield 47, 3) := by decide +kernel
theorem d_K_carry_4 : decode prog_1_method_17_code 4 = .ok (.getfield 168, 3) := by decide +kernel
theorem d_K_carry_7 : decode prog_1_method_17_code 7 = .ok (.aload_n 0, 1) := by decide +kernel
theorem d_K_carry_8 : decode prog_1_method_17_code 8 = .ok (.getfield 40, 3) := by decide +kernel
theorem d_K_carry_11 : decode prog_1_method_17_code 11 = .ok (.getfield 154, 3) := by decide +kernel
theorem d_K_carry_14 : decode prog_1_method_17_code 14 = .ok (.invokevirtual 172, 3) := by decide +kernel
theorem d_K_carry_17 : decode prog_1_method_17_code 17 = .ok (.aload_n 0, 1) := by decide +kernel
theorem d_K_carry_18 : decode prog_1_method_17_code 18 = .ok (.getfield 47, 3) := by decide +kernel
theorem d_K_carry_21 : decode prog_1_method_17_code 21 = .ok (.getfield 168, 3) := by decide +kernel
theorem d_K_carry_24 : decode prog_1_method_17_code 24 = .ok (.iload_n 1, 1) := by decide +kernel
theorem d_K_carry_25 : decode prog_1_method_17_code 25 = .ok (.iload_n 2, 1) := by decide +kernel
theorem d_K_carry_26 : decode prog_1_method_17_code 26 = .ok (.invokevirtual 176, 3) := by decide +kernel
theorem d_K_carry_29 : decode prog_1_method_17_code 29 = .ok (.aload_n 0, 1) := by decide +kernel
theorem d_K_carry_30 : decode prog_1_method_17_code 30 = .ok (.getfield 47, 3) := by decide +kernel
theorem d_K_carry_33 : decode prog_1_method_17_code 33 = .ok (.getfield 168, 3) := by decide +kernel
theorem d_K_carry_36 : decode prog_1_method_17_code 36 = .ok (.getfield 158, 3) := by decide +kernel
theorem d_K_carry_39 : decode prog_1_method_17_code 39 = .ok (.ireturn, 1) := by decide +kernel
theorem d_B_become_0 : decode prog_2_method_7_code 0 = .ok (.aload_n 1, 1) := by decide +kernel
theorem d_B_become_1 : decode prog_2_method_7_code 1 = .ok (.getfield 9, 3) := by decide +kernel
theorem d_B_become_4 : decode prog_2_method_7_code 4 = .ok (.iconst 0, 1) := by decide +kernel
theorem d_B_become_5 : decode prog_2_method_7_code 5 = .ok (.aload_n 0, 1) := by decide +kernel
theorem d_B_become_6 : decode prog_2_method_7_code 6 = .ok (.getfield 9, 3) := by decide +kernel
theorem d_B_become_9 : decode prog_2_method_7_code 9 = .ok (.iconst 0, 1) := by decide +kernel
theorem d_B_become_10 : decode prog_2_method_7_code 10 = .ok (.aload_n 1, 1) := by decide +kernel
theorem d_B_become_11 : decode prog_2_method_7_code 11 = .ok (.getfield 15, 3) := by decide +kernel
theorem d_B_become_14 : decode prog_2_method_7_code 14 = .ok (.invokestatic 23, 3) := by decide +kernel
theorem d_B_become_17 : decode prog_2_method_7_code 17 = .ok (.aload_n 0, 1) := by decide +kernel
theorem d_B_become_18 : decode prog_2_method_7_code 18 = .ok (.aload_n 1, 1) := by decide +kernel
theorem d_B_become_19 : decode prog_2_method_7_code 19 = .ok (.getfield 15, 3) := by decide +kernel
theorem d_B_become_22 : decode prog_2_method_7_code 22 = .ok (.putfield 15, 3) := by decide +kernel
theorem d_B_become_25 : decode prog_2_method_7_code 25 = .ok (.return_, 1) := by decide +kernel
theorem d_B_flip_0 : decode prog_2_method_8_code 0 = .ok (.iload_n 1, 1) := by decide +kernel
theorem d_B_flip_1 : decode prog_2_method_8_code 1 = .ok (.ifCond .lt 25, 3) := by decide +kernel
theorem d_B_flip_4 : decode prog_2_method_8_code 4 = .ok (.iload_n 1, 1) := by decide +kernel
theorem d_B_flip_5 : decode prog_2_method_8_code 5 = .ok (.aload_n 0, 1) := by decide +kernel
theorem d_B_flip_6 : decode prog_2_method_8_code 6 = .ok (.getfield 15, 3) := by decide +kernel
theorem d_B_flip_9 : decode prog_2_method_8_code 9 = .ok (.if_icmp .ge 17, 3) := by decide +kernel
theorem d_B_flip_12 : decode prog_2_method_8_code 12 = .ok (.aload_n 0, 1) := by decide +kernel
theorem d_B_flip_13 : decode prog_2_method_8_code 13 = .ok (.getfield 9, 3) := by decide +kernel
theorem d_B_flip_16 : decode prog_2_method_8_code 16 = .ok (.iload_n 1, 1) := by decide +kernel
theorem d_B_flip_17 : decode prog_2_method_8_code 17 = .ok (.dup2, 1) := by decide +kernel
theorem d_B_flip_18 : decode prog_2_method_8_code 18 = .ok (.iaload, 1) := by decide +kernel
theorem d_B_flip_19 : decode prog_2_method_8_code 19 = .ok (.iload_n 2, 1) := by decide +kernel
theorem d_B_flip_20 : decode prog_2_method_8_code 20 = .ok (.sipush 255, 3) := by decide +kernel
theorem d_B_flip_23 : decode prog_2_method_8_code 23 = .ok (.iand, 1) := by decide +kernel
theorem d_B_flip_24 : decode prog_2_method_8_code 24 = .ok (.ixor, 1) := by decide +kernel
theorem d_B_flip_25 : decode prog_2_method_8_code 25 = .ok (.iastore, 1) := by decide +kernel
theorem d_B_flip_26 : decode prog_2_method_8_code 26 = .ok (.return_, 1) := by decide +kernel
theorem d_K_shown_0 : decode prog_1_method_19_code 0 = .ok (.aload_n 0, 1) := by decide +kernel
theorem d_K_shown_1 : decode prog_1_method_19_code 1 = .ok (.getfield 47, 3) := by decide +kernel
theorem d_K_shown_4 : decode prog_1_method_19_code 4 = .ok (.getfield 189, 3) := by decide +kernel
theorem d_K_shown_7 : decode prog_1_method_19_code 7 = .ok (.ireturn, 1) := by decide +kernel
theorem d_K_put_0 : decode prog_1_method_2_code 0 = .ok (.iload_n 1, 1) := by decide +kernel
theorem d_K_put_1 : decode prog_1_method_2_code 1 = .ok (.invokestatic 51, 3) := by decide +kernel
theorem d_K_put_4 : decode prog_1_method_2_code 4 = .ok (.aload_n 0, 1) := by decide +kernel
theorem d_K_put_5 : decode prog_1_method_2_code 5 = .ok (.invokevirtual 55, 3) := by decide +kernel
theorem d_K_put_8 : decode prog_1_method_2_code 8 = .ok (.aload_n 0, 1) := by decide +kernel
theorem d_K_put_9 : decode prog_1_method_2_code 9 = .ok (.getfield 26, 3) := by decide +kernel
theorem d_K_put_12 : decode prog_1_method_2_code 12 = .ok (.iload_n 1, 1) := by decide +kernel
theorem d_K_put_13 : decode prog_1_method_2_code 13 = .ok (.iload_n 2, 1) := by decide +kernel
theorem d_K_put_14 : decode prog_1_method_2_code 14 = .ok (.invokevirtual 58, 3) := by decide +kernel
theorem d_K_put_17 : decode prog_1_method_2_code 17 = .ok (.return_, 1) := by decide +kernel
theorem d_K_requireKey_0 : decode prog_1_method_23_code 0 = .ok (.iload_n 0, 1) := by decide +kernel
theorem d_K_requireKey_1 : decode prog_1_method_23_code 1 = .ok (.ifCond .lt 13, 3) := by decide +kernel
theorem d_K_requireKey_4 : decode prog_1_method_23_code 4 = .ok (.iload_n 0, 1) := by decide +kernel
theorem d_K_requireKey_5 : decode prog_1_method_23_code 5 = .ok (.bipush 48, 2) := by decide +kernel
theorem d_K_requireKey_7 : decode prog_1_method_23_code 7 = .ok (.if_icmp .ge 7, 3) := by decide +kernel
theorem d_K_requireKey_10 : decode prog_1_method_23_code 10 = .ok (.iconst 1, 1) := by decide +kernel
theorem d_K_requireKey_11 : decode prog_1_method_23_code 11 = .ok (.goto 4, 3) := by decide +kernel
theorem d_K_requireKey_14 : decode prog_1_method_23_code 14 = .ok (.iconst 0, 1) := by decide +kernel
theorem d_K_requireKey_15 : decode prog_1_method_23_code 15 = .ok (.invokestatic 144, 3) := by decide +kernel
theorem d_K_requireKey_18 : decode prog_1_method_23_code 18 = .ok (.return_, 1) := by decide +kernel
theorem d_K_require_0 : decode prog_1_method_24_code 0 = .ok (.iload_n 0, 1) := by decide +kernel
theorem d_K_require_1 : decode prog_1_method_24_code 1 = .ok (.ifCond .ne 13, 3) := by decide +kernel
theorem d_K_require_4 : decode prog_1_method_24_code 4 = .ok (.new 202, 3) := by decide +kernel
theorem d_K_require_7 : decode prog_1_method_24_code 7 = .ok (.dup, 1) := by decide +kernel
theorem d_K_require_8 : decode prog_1_method_24_code 8 = .ok (.ldc 204, 2) := by decide +kernel
theorem d_K_require_10 : decode prog_1_method_24_code 10 = .ok (.invokespecial 206, 3) := by decide +kernel
theorem d_K_require_13 : decode prog_1_method_24_code 13 = .ok (.athrow, 1) := by decide +kernel
theorem d_K_require_14 : decode prog_1_method_24_code 14 = .ok (.return_, 1) := by decide +kernel
theorem d_K_requireRoom_0 : decode prog_1_method_21_code 0 = .ok (.aload_n 0, 1) := by decide +kernel
theorem d_K_requireRoom_1 : decode prog_1_method_21_code 1 = .ok (.getfield 19, 3) := by decide +kernel
theorem d_K_requireRoom_4 : decode prog_1_method_21_code 4 = .ok (.getfield 89, 3) := by decide +kernel
theorem d_K_requireRoom_7 : decode prog_1_method_21_code 7 = .ok (.bipush 16, 2) := by decide +kernel
theorem d_K_requireRoom_9 : decode prog_1_method_21_code 9 = .ok (.if_icmp .lt 13, 3) := by decide +kernel
theorem d_K_requireRoom_12 : decode prog_1_method_21_code 12 = .ok (.new 195, 3) := by decide +kernel
theorem d_K_requireRoom_15 : decode prog_1_method_21_code 15 = .ok (.dup, 1) := by decide +kernel
theorem d_K_requireRoom_16 : decode prog_1_method_21_code 16 = .ok (.ldc 197, 2) := by decide +kernel
theorem d_K_requireRoom_18 : decode prog_1_method_21_code 18 = .ok (.invokespecial 199, 3) := by decide +kernel
theorem d_K_requireRoom_21 : decode prog_1_method_21_code 21 = .ok (.athrow, 1) := by decide +kernel
theorem d_K_requireRoom_22 : decode prog_1_method_21_code 22 = .ok (.return_, 1) := by decide +kernel
theorem d_T_set_0 : decode prog_8_method_2_code 0 = .ok (.aload_n 0, 1) := by decide +kernel
theorem d_T_set_1 : decode prog_8_method_2_code 1 = .ok (.getfield 9, 3) := by decide +kernel
theorem d_T_set_4 : decode prog_8_method_2_code 4 = .ok (.iload_n 1, 1) := by decide +kernel
theorem d_T_set_5 : decode prog_8_method_2_code 5 = .ok (.iconst 1, 1) := by decide +kernel
theorem d_T_set_6 : decode prog_8_method_2_code 6 = .ok (.bastore, 1) := by decide +kernel
theorem d_T_set_7 : decode prog_8_method_2_code 7 = .ok (.aload_n 0, 1) := by decide +kernel
theorem d_T_set_8 : decode prog_8_method_2_code 8 = .ok (.getfield 15, 3) := by decide +kernel
theorem d_T_set_11 : decode prog_8_method_2_code 11 = .ok (.iload_n 1, 1) := by decide +kernel
theorem d_T_set_12 : decode prog_8_method_2_code 12 = .ok (.iload_n 2, 1) := by decide +kernel
theorem d_T_set_13 : decode prog_8_method_2_code 13 = .ok (.iastore, 1) := by decide +kernel
theorem d_T_set_14 : decode prog_8_method_2_code 14 = .ok (.return_, 1) := by decide +kernel
theorem d_K_delete_0 : decode prog_1_method_3_code 0 = .ok (.iload_n 1, 1) := by decide +kernel
theorem d_K_delete_1 : decode prog_1_method_3_code 1 = .ok (.invokestatic 51, 3) := by decide +kernel
theorem d_K_delete_4 : decode prog_1_method_3_code 4 = .ok (.aload_n 0, 1) := by decide +kernel
theorem d_K_delete_5 : decode prog_1_method_3_code 5 = .ok (.invokevirtual 55, 3) := by decide +kernel
theorem d_K_delete_8 : decode prog_1_method_3_code 8 = .ok (.aload_n 0, 1) := by decide +kernel
theorem d_K_delete_9 : decode prog_1_method_3_code 9 = .ok (.getfield 26, 3) := by decide +kernel
theorem d_K_delete_12 : decode prog_1_method_3_code 12 = .ok (.iload_n 1, 1) := by decide +kernel
theorem d_K_delete_13 : decode prog_1_method_3_code 13 = .ok (.invokevirtual 62, 3) := by decide +kernel
theorem d_K_delete_16 : decode prog_1_method_3_code 16 = .ok (.ireturn, 1) := by decide +kernel
theorem d_T_unset_0 : decode prog_8_method_3_code 0 = .ok (.aload_n 0, 1) := by decide +kernel
theorem d_T_unset_1 : decode prog_8_method_3_code 1 = .ok (.getfield 9, 3) := by decide +kernel
theorem d_T_unset_4 : decode prog_8_method_3_code 4 = .ok (.iload_n 1, 1) := by decide +kernel
theorem d_T_unset_5 : decode prog_8_method_3_code 5 = .ok (.baload, 1) := by decide +kernel
theorem d_T_unset_6 : decode prog_8_method_3_code 6 = .ok (.istore_n 2, 1) := by decide +kernel
theorem d_T_unset_7 : decode prog_8_method_3_code 7 = .ok (.aload_n 0, 1) := by decide +kernel
theorem d_T_unset_8 : decode prog_8_method_3_code 8 = .ok (.getfield 9, 3) := by decide +kernel
theorem d_T_unset_11 : decode prog_8_method_3_code 11 = .ok (.iload_n 1, 1) := by decide +kernel
theorem d_T_unset_12 : decode prog_8_method_3_code 12 = .ok (.iconst 0, 1) := by decide +kernel
theorem d_T_unset_13 : decode prog_8_method_3_code 13 = .ok (.bastore, 1) := by decide +kernel
theorem d_T_unset_14 : decode prog_8_method_3_code 14 = .ok (.iload_n 2, 1) := by decide +kernel
theorem d_T_unset_15 : decode prog_8_method_3_code 15 = .ok (.ireturn, 1) := by decide +kernel
theorem d_K_commit_0 : decode prog_1_method_4_code 0 = .ok (.aload_n 0, 1) := by decide +kernel
theorem d_K_commit_1 : decode prog_1_method_4_code 1 = .ok (.invokevirtual 55, 3) := by decide +kernel
theorem d_K_commit_4 : decode prog_1_method_4_code 4 = .ok (.aload_n 0, 1) := by decide +kernel
theorem d_K_commit_5 : decode prog_1_method_4_code 5 = .ok (.getfield 26, 3) := by decide +kernel
theorem d_K_commit_8 : decode prog_1_method_4_code 8 = .ok (.aload_n 0, 1) := by decide +kernel
theorem d_K_commit_9 : decode prog_1_method_4_code 9 = .ok (.getfield 33, 3) := by decide +kernel
theorem d_K_commit_12 : decode prog_1_method_4_code 12 = .ok (.invokevirtual 66, 3) := by decide +kernel
theorem d_K_commit_15 : decode prog_1_method_4_code 15 = .ok (.aload_n 0, 1) := by decide +kernel
theorem d_K_commit_16 : decode prog_1_method_4_code 16 = .ok (.getfield 10, 3) := by decide +kernel
theorem d_K_commit_19 : decode prog_1_method_4_code 19 = .ok (.aload_n 0, 1) := by decide +kernel
theorem d_K_commit_20 : decode prog_1_method_4_code 20 = .ok (.getfield 33, 3) := by decide +kernel
theorem d_K_commit_23 : decode prog_1_method_4_code 23 = .ok (.invokevirtual 70, 3) := by decide +kernel
theorem d_K_commit_26 : decode prog_1_method_4_code 26 = .ok (.ifCond .eq 13, 3) := by decide +kernel
theorem d_K_commit_29 : decode prog_1_method_4_code 29 = .ok (.aload_n 0, 1) := by decide +kernel
theorem d_K_commit_30 : decode prog_1_method_4_code 30 = .ok (.getfield 10, 3) := by decide +kernel
theorem d_K_commit_33 : decode prog_1_method_4_code 33 = .ok (.invokevirtual 74, 3) := by decide +kernel
theorem d_K_commit_36 : decode prog_1_method_4_code 36 = .ok (.ifCond .ne 9, 3) := by decide +kernel
theorem d_K_commit_39 : decode prog_1_method_4_code 39 = .ok (.aload_n 0, 1) := by decide +kernel
theorem d_K_commit_40 : decode prog_1_method_4_code 40 = .ok (.invokevirtual 78, 3) := by decide +kernel
theorem d_K_commit_43 : decode prog_1_method_4_code 43 = .ok (.iconst (-1), 1) := by decide +kernel
theorem d_K_commit_44 : decode prog_1_method_4_code 44 = .ok (.ireturn, 1) := by decide +kernel
theorem d_K_commit_45 : decode prog_1_method_4_code 45 = .ok (.aload_n 0, 1) := by decide +kernel
theorem d_K_commit_46 : decode prog_1_method_4_code 46 = .ok (.getfield 19, 3) := by decide +kernel
theorem d_K_commit_49 : decode prog_1_method_4_code 49 = .ok (.aload_n 0, 1) := by decide +kernel
theorem d_K_commit_50 : decode prog_1_method_4_code 50 = .ok (.getfield 33, 3) := by decide +kernel
theorem d_K_commit_53 : decode prog_1_method_4_code 53 = .ok (.invokevirtual 81, 3) := by decide +kernel
theorem d_K_commit_56 : decode prog_1_method_4_code 56 = .ok (.invokevirtual 85, 3) := by decide +kernel
theorem d_K_commit_59 : decode prog_1_method_4_code 59 = .ok (.aload_n 0, 1) := by decide +kernel
theorem d_K_commit_60 : decode prog_1_method_4_code 60 = .ok (.getfield 19, 3) := by decide +kernel
theorem d_K_commit_63 : decode prog_1_method_4_code 63 = .ok (.getfield 89, 3) := by decide +kernel
theorem d_K_commit_66 : decode prog_1_method_4_code 66 = .ok (.iconst 1, 1) := by decide +kernel
theorem d_K_commit_67 : decode prog_1_method_4_code 67 = .ok (.isub, 1) := by decide +kernel
theorem d_K_commit_68 : decode prog_1_method_4_code 68 = .ok (.ireturn, 1) := by decide +kernel
theorem d_T_listInto_0 : decode prog_8_method_5_code 0 = .ok (.iconst 0, 1) := by decide +kernel
theorem d_T_listInto_1 : decode prog_8_method_5_code 1 = .ok (.istore_n 2, 1) := by decide +kernel
theorem d_T_listInto_2 : decode prog_8_method_5_code 2 = .ok (.iconst 0, 1) := by decide +kernel
theorem d_T_listInto_3 : decode prog_8_method_5_code 3 = .ok (.istore_n 3, 1) := by decide +kernel
theorem d_T_listInto_4 : decode prog_8_method_5_code 4 = .ok (.iload_n 3, 1) := by decide +kernel
theorem d_T_listInto_5 : decode prog_8_method_5_code 5 = .ok (.bipush 48, 2) := by decide +kernel
theorem d_T_listInto_7 : decode prog_8_method_5_code 7 = .ok (.if_icmp .ge 34, 3) := by decide +kernel
theorem d_T_listInto_10 : decode prog_8_method_5_code 10 = .ok (.aload_n 0, 1) := by decide +kernel
theorem d_T_listInto_11 : decode prog_8_method_5_code 11 = .ok (.getfield 9, 3) := by decide +kernel
theorem d_T_listInto_14 : decode prog_8_method_5_code 14 = .ok (.iload_n 3, 1) := by decide +kernel
theorem d_T_listInto_15 : decode prog_8_method_5_code 15 = .ok (.baload, 1) := by decide +kernel
theorem d_T_listInto_16 : decode prog_8_method_5_code 16 = .ok (.ifCond .eq 19, 3) := by decide +kernel
theorem d_T_listInto_19 : decode prog_8_method_5_code 19 = .ok (.aload_n 1, 1) := by decide +kernel
theorem d_T_listInto_20 : decode prog_8_method_5_code 20 = .ok (.iload_n 2, 1) := by decide +kernel
theorem d_T_listInto_21 : decode prog_8_method_5_code 21 = .ok (.iload_n 3, 1) := by decide +kernel
theorem d_T_listInto_22 : decode prog_8_method_5_code 22 = .ok (.aload_n 0, 1) := by decide +kernel
theorem d_T_listInto_23 : decode prog_8_method_5_code 23 = .ok (.getfield 15, 3) := by decide +kernel
theorem d_T_listInto_26 : decode prog_8_method_5_code 26 = .ok (.iload_n 3, 1) := by decide +kernel
theorem d_T_listInto_27 : decode prog_8_method_5_code 27 = .ok (.iaload, 1) := by decide +kernel
theorem d_T_listInto_28 : decode prog_8_method_5_code 28 = .ok (.aconst_null, 1) := by decide +kernel
theorem d_T_listInto_29 : decode prog_8_method_5_code 29 = .ok (.invokevirtual 31, 3) := by decide +kernel
theorem d_T_listInto_32 : decode prog_8_method_5_code 32 = .ok (.iinc 2 1, 3) := by decide +kernel
theorem d_T_listInto_35 : decode prog_8_method_5_code 35 = .ok (.iinc 3 1, 3) := by decide +kernel
theorem d_T_listInto_38 : decode prog_8_method_5_code 38 = .ok (.goto (-34), 3) := by decide +kernel
theorem d_T_listInto_41 : decode prog_8_method_5_code 41 = .ok (.aload_n 1, 1) := by decide +kernel
theorem d_T_listInto_42 : decode prog_8_method_5_code 42 = .ok (.iload_n 2, 1) := by decide +kernel
theorem d_T_listInto_43 : decode prog_8_method_5_code 43 = .ok (.putfield 37, 3) := by decide +kernel
theorem d_T_listInto_46 : decode prog_8_method_5_code 46 = .ok (.return_, 1) := by decide +kernel
theorem d_R_set_0 : decode prog_6_method_2_code 0 = .ok (.aload_n 0, 1) := by decide +kernel
theorem d_R_set_1 : decode prog_6_method_2_code 1 = .ok (.getfield 9, 3) := by decide +kernel
theorem d_R_set_4 : decode prog_6_method_2_code 4 = .ok (.iload_n 1, 1) := by decide +kernel
theorem d_R_set_5 : decode prog_6_method_2_code 5 = .ok (.iload_n 2, 1) := by decide +kernel
theorem d_R_set_6 : decode prog_6_method_2_code 6 = .ok (.iastore, 1) := by decide +kernel
theorem d_R_set_7 : decode prog_6_method_2_code 7 = .ok (.aload_n 0, 1) := by decide +kernel
theorem d_R_set_8 : decode prog_6_method_2_code 8 = .ok (.getfield 15, 3) := by decide +kernel
theorem d_R_set_11 : decode prog_6_method_2_code 11 = .ok (.iload_n 1, 1) := by decide +kernel
theorem d_R_set_12 : decode prog_6_method_2_code 12 = .ok (.iload_n 3, 1) := by decide +kernel
theorem d_R_set_13 : decode prog_6_method_2_code 13 = .ok (.iastore, 1) := by decide +kernel
theorem d_R_set_14 : decode prog_6_method_2_code 14 = .ok (.aload_n 0, 1) := by decide +kernel
theorem d_R_set_15 : decode prog_6_method_2_code 15 = .ok (.getfield 20, 3) := by decide +kernel
theorem d_R_set_18 : decode prog_6_method_2_code 18 = .ok (.iload_n 1, 1) := by decide +kernel
theorem d_R_set_19 : decode prog_6_method_2_code 19 = .ok (.aload 4, 2) := by decide +kernel
theorem d_R_set_21 : decode prog_6_method_2_code 21 = .ok (.aastore, 1) := by decide +kernel
theorem d_R_set_22 : decode prog_6_method_2_code 22 = .ok (.return_, 1) := by decide +kernel
theorem d_S_keepTree_0 : decode prog_7_method_2_code 0 = .ok (.aload_n 1, 1) := by decide +kernel
theorem d_S_keepTree_1 : decode prog_7_method_2_code 1 = .ok (.getfield 24, 3) := by decide +kernel
theorem d_S_keepTree_4 : decode prog_7_method_2_code 4 = .ok (.ifCond .le 7, 3) := by decide +kernel
theorem d_S_keepTree_7 : decode prog_7_method_2_code 7 = .ok (.iconst 1, 1) := by decide +kernel
theorem d_S_keepTree_8 : decode prog_7_method_2_code 8 = .ok (.goto 4, 3) := by decide +kernel
theorem d_S_keepTree_11 : decode prog_7_method_2_code 11 = .ok (.iconst 0, 1) := by decide +kernel
theorem d_S_keepTree_12 : decode prog_7_method_2_code 12 = .ok (.istore_n 2, 1) := by decide +kernel
theorem d_S_keepTree_13 : decode prog_7_method_2_code 13 = .ok (.iconst 0, 1) := by decide +kernel
theorem d_S_keepTree_14 : decode prog_7_method_2_code 14 = .ok (.istore_n 3, 1) := by decide +kernel
theorem d_S_keepTree_15 : decode prog_7_method_2_code 15 = .ok (.iload_n 2, 1) := by decide +kernel
theorem d_S_keepTree_16 : decode prog_7_method_2_code 16 = .ok (.ifCond .eq 40, 3) := by decide +kernel
theorem d_S_keepTree_19 : decode prog_7_method_2_code 19 = .ok (.iload_n 3, 1) := by decide +kernel
theorem d_S_keepTree_20 : decode prog_7_method_2_code 20 = .ok (.bipush 6, 2) := by decide +kernel
theorem d_S_keepTree_22 : decode prog_7_method_2_code 22 = .ok (.if_icmp .ge 34, 3) := by decide +kernel
theorem d_S_keepTree_25 : decode prog_7_method_2_code 25 = .ok (.aload_n 0, 1) := by decide +kernel
theorem d_S_keepTree_26 : decode prog_7_method_2_code 26 = .ok (.aload_n 1, 1) := by decide +kernel
theorem d_S_keepTree_27 : decode prog_7_method_2_code 27 = .ok (.iload_n 3, 1) := by decide +kernel
theorem d_S_keepTree_28 : decode prog_7_method_2_code 28 = .ok (.invokevirtual 27, 3) := by decide +kernel
theorem d_S_keepTree_31 : decode prog_7_method_2_code 31 = .ok (.ifCond .ne 5, 3) := by decide +kernel
theorem d_S_keepTree_34 : decode prog_7_method_2_code 34 = .ok (.iconst 0, 1) := by decide +kernel
theorem d_S_keepTree_35 : decode prog_7_method_2_code 35 = .ok (.ireturn, 1) := by decide +kernel
theorem d_S_keepTree_36 : decode prog_7_method_2_code 36 = .ok (.aload_n 1, 1) := by decide +kernel
theorem d_S_keepTree_37 : decode prog_7_method_2_code 37 = .ok (.getfield 24, 3) := by decide +kernel
theorem d_S_keepTree_40 : decode prog_7_method_2_code 40 = .ok (.iconst 1, 1) := by decide +kernel
theorem d_S_keepTree_41 : decode prog_7_method_2_code 41 = .ok (.if_icmp .le 7, 3) := by decide +kernel
theorem d_S_keepTree_44 : decode prog_7_method_2_code 44 = .ok (.iconst 1, 1) := by decide +kernel
theorem d_S_keepTree_45 : decode prog_7_method_2_code 45 = .ok (.goto 4, 3) := by decide +kernel
theorem d_S_keepTree_48 : decode prog_7_method_2_code 48 = .ok (.iconst 0, 1) := by decide +kernel
theorem d_S_keepTree_49 : decode prog_7_method_2_code 49 = .ok (.istore_n 2, 1) := by decide +kernel
theorem d_S_keepTree_50 : decode prog_7_method_2_code 50 = .ok (.iinc 3 1, 3) := by decide +kernel
theorem d_S_keepTree_53 : decode prog_7_method_2_code 53 = .ok (.goto (-38), 3) := by decide +kernel
theorem d_S_keepTree_56 : decode prog_7_method_2_code 56 = .ok (.iconst 1, 1) := by decide +kernel
theorem d_S_keepTree_57 : decode prog_7_method_2_code 57 = .ok (.ireturn, 1) := by decide +kernel
theorem d_S_keepLevel_0 : decode prog_7_method_3_code 0 = .ok (.iconst 0, 1) := by decide +kernel
theorem d_S_keepLevel_1 : decode prog_7_method_3_code 1 = .ok (.istore_n 3, 1) := by decide +kernel
theorem d_S_keepLevel_2 : decode prog_7_method_3_code 2 = .ok (.iconst 0, 1) := by decide +kernel
theorem d_S_keepLevel_3 : decode prog_7_method_3_code 3 = .ok (.istore 4, 2) := by decide +kernel
theorem d_S_keepLevel_5 : decode prog_7_method_3_code 5 = .ok (.iconst 0, 1) := by decide +kernel
theorem d_S_keepLevel_6 : decode prog_7_method_3_code 6 = .ok (.istore 5, 2) := by decide +kernel
theorem d_S_keepLevel_8 : decode prog_7_method_3_code 8 = .ok (.iload 5, 2) := by decide +kernel
theorem d_S_keepLevel_10 : decode prog_7_method_3_code 10 = .ok (.aload_n 1, 1) := by decide +kernel
theorem d_S_keepLevel_11 : decode prog_7_method_3_code 11 = .ok (.getfield 24, 3) := by decide +kernel
theorem d_S_keepLevel_14 : decode prog_7_method_3_code 14 = .ok (.if_icmp .ge 82, 3) := by decide +kernel
theorem d_S_keepLevel_17 : decode prog_7_method_3_code 17 = .ok (.aload_n 1, 1) := by decide +kernel
theorem d_S_keepLevel_18 : decode prog_7_method_3_code 18 = .ok (.getfield 31, 3) := by decide +kernel
theorem d_S_keepLevel_21 : decode prog_7_method_3_code 21 = .ok (.iload 5, 2) := by decide +kernel
theorem d_S_keepLevel_23 : decode prog_7_method_3_code 23 = .ok (.iaload, 1) := by decide +kernel
theorem d_S_keepLevel_24 : decode prog_7_method_3_code 24 = .ok (.istore 6, 2) := by decide +kernel
theorem d_S_keepLevel_26 : decode prog_7_method_3_code 26 = .ok (.iload 5, 2) := by decide +kernel
theorem d_S_keepLevel_28 : decode prog_7_method_3_code 28 = .ok (.aload_n 1, 1) := by decide +kernel
theorem d_S_keepLevel_29 : decode prog_7_method_3_code 29 = .ok (.getfield 24, 3) := by decide +kernel
theorem d_S_keepLevel_32 : decode prog_7_method_3_code 32 = .ok (.iconst 1, 1) := by decide +kernel
theorem d_S_keepLevel_33 : decode prog_7_method_3_code 33 = .ok (.isub, 1) := by decide +kernel
theorem d_S_keepLevel_34 : decode prog_7_method_3_code 34 = .ok (.if_icmp .eq 12, 3) := by decide +kernel
theorem d_S_keepLevel_37 : decode prog_7_method_3_code 37 = .ok (.iload_n 2, 1) := by decide +kernel
theorem d_S_keepLevel_38 : decode prog_7_method_3_code 38 = .ok (.iload 6, 2) := by decide +kernel
theorem d_S_keepLevel_40 : decode prog_7_method_3_code 40 = .ok (.invokestatic 35, 3) := by decide +kernel
theorem d_S_keepLevel_43 : decode prog_7_method_3_code 43 = .ok (.ifCond .eq 47, 3) := by decide +kernel
theorem d_S_keepLevel_46 : decode prog_7_method_3_code 46 = .ok (.aload_n 0, 1) := by decide +kernel
theorem d_S_keepLevel_47 : decode prog_7_method_3_code 47 = .ok (.aload_n 1, 1) := by decide +kernel
theorem d_S_keepLevel_48 : decode prog_7_method_3_code 48 = .ok (.iload_n 2, 1) := by decide +kernel
theorem d_S_keepLevel_49 : decode prog_7_method_3_code 49 = .ok (.iload 4, 2) := by decide +kernel
theorem d_S_keepLevel_51 : decode prog_7_method_3_code 51 = .ok (.iload 5, 2) := by decide +kernel
theorem d_S_keepLevel_53 : decode prog_7_method_3_code 53 = .ok (.iconst 1, 1) := by decide +kernel
theorem d_S_keepLevel_54 : decode prog_7_method_3_code 54 = .ok (.iadd, 1) := by decide +kernel
theorem d_S_keepLevel_55 : decode prog_7_method_3_code 55 = .ok (.invokevirtual 39, 3) := by decide +kernel
theorem d_S_keepLevel_58 : decode prog_7_method_3_code 58 = .ok (.astore 7, 2) := by decide +kernel
theorem d_S_keepLevel_60 : decode prog_7_method_3_code 60 = .ok (.aload 7, 2) := by decide +kernel
theorem d_S_keepLevel_62 : decode prog_7_method_3_code 62 = .ok (.ifnonnull 5, 3) := by decide +kernel
theorem d_S_keepLevel_65 : decode prog_7_method_3_code 65 = .ok (.iconst 0, 1) := by decide +kernel
theorem d_S_keepLevel_66 : decode prog_7_method_3_code 66 = .ok (.ireturn, 1) := by decide +kernel
theorem d_S_keepLevel_67 : decode prog_7_method_3_code 67 = .ok (.aload_n 1, 1) := by decide +kernel
theorem d_S_keepLevel_68 : decode prog_7_method_3_code 68 = .ok (.iload_n 3, 1) := by decide +kernel
theorem d_S_keepLevel_69 : decode prog_7_method_3_code 69 = .ok (.iload 6, 2) := by decide +kernel
theorem d_S_keepLevel_71 : decode prog_7_method_3_code 71 = .ok (.aload 7, 2) := by decide +kernel
theorem d_S_keepLevel_73 : decode prog_7_method_3_code 73 = .ok (.getfield 43, 3) := by decide +kernel
theorem d_S_keepLevel_76 : decode prog_7_method_3_code 76 = .ok (.aload 7, 2) := by decide +kernel
theorem d_S_keepLevel_78 : decode prog_7_method_3_code 78 = .ok (.invokevirtual 46, 3) := by decide +kernel
theorem d_S_keepLevel_81 : decode prog_7_method_3_code 81 = .ok (.iinc 3 1, 3) := by decide +kernel
theorem d_S_keepLevel_84 : decode prog_7_method_3_code 84 = .ok (.iload 5, 2) := by decide +kernel
theorem d_S_keepLevel_86 : decode prog_7_method_3_code 86 = .ok (.iconst 1, 1) := by decide +kernel
theorem d_S_keepLevel_87 : decode prog_7_method_3_code 87 = .ok (.iadd, 1) := by decide +kernel
theorem d_S_keepLevel_88 : decode prog_7_method_3_code 88 = .ok (.istore 4, 2) := by decide +kernel
theorem d_S_keepLevel_90 : decode prog_7_method_3_code 90 = .ok (.iinc 5 1, 3) := by decide +kernel
theorem d_S_keepLevel_93 : decode prog_7_method_3_code 93 = .ok (.goto (-85), 3) := by decide +kernel
theorem d_S_keepLevel_96 : decode prog_7_method_3_code 96 = .ok (.aload_n 1, 1) := by decide +kernel
theorem d_S_keepLevel_97 : decode prog_7_method_3_code 97 = .ok (.iload_n 3, 1) := by decide +kernel
theorem d_S_keepLevel_98 : decode prog_7_method_3_code 98 = .ok (.putfield 24, 3) := by decide +kernel
theorem d_S_keepLevel_101 : decode prog_7_method_3_code 101 = .ok (.iconst 1, 1) := by decide +kernel
theorem d_S_keepLevel_102 : decode prog_7_method_3_code 102 = .ok (.ireturn, 1) := by decide +kernel
theorem d_K_endsChunk_0 : decode prog_1_method_30_code 0 = .ok (.bipush 9, 2) := by decide +kernel
theorem d_K_endsChunk_2 : decode prog_1_method_30_code 2 = .ok (.iload_n 0, 1) := by decide +kernel
theorem d_K_endsChunk_3 : decode prog_1_method_30_code 3 = .ok (.invokestatic 213, 3) := by decide +kernel
theorem d_K_endsChunk_6 : decode prog_1_method_30_code 6 = .ok (.iload_n 1, 1) := by decide +kernel
theorem d_K_endsChunk_7 : decode prog_1_method_30_code 7 = .ok (.invokestatic 213, 3) := by decide +kernel
theorem d_K_endsChunk_10 : decode prog_1_method_30_code 10 = .ok (.iconst 5, 1) := by decide +kernel
theorem d_K_endsChunk_11 : decode prog_1_method_30_code 11 = .ok (.invokestatic 213, 3) := by decide +kernel
theorem d_K_endsChunk_14 : decode prog_1_method_30_code 14 = .ok (.iconst 3, 1) := by decide +kernel
theorem d_K_endsChunk_15 : decode prog_1_method_30_code 15 = .ok (.iand, 1) := by decide +kernel
theorem d_K_endsChunk_16 : decode prog_1_method_30_code 16 = .ok (.ifCond .ne 7, 3) := by decide +kernel
theorem d_K_endsChunk_19 : decode prog_1_method_30_code 19 = .ok (.iconst 1, 1) := by decide +kernel
theorem d_K_endsChunk_20 : decode prog_1_method_30_code 20 = .ok (.goto 4, 3) := by decide +kernel
theorem d_K_endsChunk_23 : decode prog_1_method_30_code 23 = .ok (.iconst 0, 1) := by decide +kernel
theorem d_K_endsChunk_24 : decode prog_1_method_30_code 24 = .ok (.ireturn, 1) := by decide +kernel
theorem d_K_mix_0 : decode prog_1_method_26_code 0 = .ok (.iload_n 0, 1) := by decide +kernel
theorem d_K_mix_1 : decode prog_1_method_26_code 1 = .ok (.iload_n 1, 1) := by decide +kernel
theorem d_K_mix_2 : decode prog_1_method_26_code 2 = .ok (.ixor, 1) := by decide +kernel
theorem d_K_mix_3 : decode prog_1_method_26_code 3 = .ok (.ldc 212, 2) := by decide +kernel
theorem d_K_mix_5 : decode prog_1_method_26_code 5 = .ok (.imul, 1) := by decide +kernel
theorem d_K_mix_6 : decode prog_1_method_26_code 6 = .ok (.istore_n 2, 1) := by decide +kernel
theorem d_K_mix_7 : decode prog_1_method_26_code 7 = .ok (.iload_n 2, 1) := by decide +kernel
theorem d_K_mix_8 : decode prog_1_method_26_code 8 = .ok (.iload_n 2, 1) := by decide +kernel
theorem d_K_mix_9 : decode prog_1_method_26_code 9 = .ok (.bipush 15, 2) := by decide +kernel
theorem d_K_mix_11 : decode prog_1_method_26_code 11 = .ok (.iushr, 1) := by decide +kernel
theorem d_K_mix_12 : decode prog_1_method_26_code 12 = .ok (.ixor, 1) := by decide +kernel
theorem d_K_mix_13 : decode prog_1_method_26_code 13 = .ok (.ireturn, 1) := by decide +kernel
theorem d_S_keep_0 : decode prog_7_method_4_code 0 = .ok (.aload_n 1, 1) := by decide +kernel
theorem d_S_keep_1 : decode prog_7_method_4_code 1 = .ok (.iload_n 2, 1) := by decide +kernel
theorem d_S_keep_2 : decode prog_7_method_4_code 2 = .ok (.iload_n 3, 1) := by decide +kernel
theorem d_S_keep_3 : decode prog_7_method_4_code 3 = .ok (.iload 4, 2) := by decide +kernel
theorem d_S_keep_5 : decode prog_7_method_4_code 5 = .ok (.invokevirtual 50, 3) := by decide +kernel
theorem d_S_keep_8 : decode prog_7_method_4_code 8 = .ok (.istore 5, 2) := by decide +kernel
theorem d_S_keep_10 : decode prog_7_method_4_code 10 = .ok (.aload_n 1, 1) := by decide +kernel
theorem d_S_keep_11 : decode prog_7_method_4_code 11 = .ok (.getfield 31, 3) := by decide +kernel
theorem d_S_keep_14 : decode prog_7_method_4_code 14 = .ok (.iload 4, 2) := by decide +kernel
theorem d_S_keep_16 : decode prog_7_method_4_code 16 = .ok (.iconst 1, 1) := by decide +kernel
theorem d_S_keep_17 : decode prog_7_method_4_code 17 = .ok (.isub, 1) := by decide +kernel
theorem d_S_keep_18 : decode prog_7_method_4_code 18 = .ok (.iaload, 1) := by decide +kernel
theorem d_S_keep_19 : decode prog_7_method_4_code 19 = .ok (.istore 6, 2) := by decide +kernel
theorem d_S_keep_21 : decode prog_7_method_4_code 21 = .ok (.aload_n 0, 1) := by decide +kernel
theorem d_S_keep_22 : decode prog_7_method_4_code 22 = .ok (.getfield 11, 3) := by decide +kernel
theorem d_S_keep_25 : decode prog_7_method_4_code 25 = .ok (.iload 6, 2) := by decide +kernel
theorem d_S_keep_27 : decode prog_7_method_4_code 27 = .ok (.aaload, 1) := by decide +kernel
theorem d_S_keep_28 : decode prog_7_method_4_code 28 = .ok (.astore 7, 2) := by decide +kernel
theorem d_S_keep_30 : decode prog_7_method_4_code 30 = .ok (.aload 7, 2) := by decide +kernel
theorem d_S_keep_32 : decode prog_7_method_4_code 32 = .ok (.ifnull 47, 3) := by decide +kernel
theorem d_S_keep_35 : decode prog_7_method_4_code 35 = .ok (.aload 7, 2) := by decide +kernel
theorem d_S_keep_37 : decode prog_7_method_4_code 37 = .ok (.getfield 43, 3) := by decide +kernel
theorem d_S_keep_40 : decode prog_7_method_4_code 40 = .ok (.iload 5, 2) := by decide +kernel
theorem d_S_keep_42 : decode prog_7_method_4_code 42 = .ok (.if_icmp .ne 27, 3) := by decide +kernel
theorem d_S_keep_45 : decode prog_7_method_4_code 45 = .ok (.aload 7, 2) := by decide +kernel
theorem d_S_keep_47 : decode prog_7_method_4_code 47 = .ok (.getfield 54, 3) := by decide +kernel
theorem d_S_keep_50 : decode prog_7_method_4_code 50 = .ok (.iload_n 2, 1) := by decide +kernel
theorem d_S_keep_51 : decode prog_7_method_4_code 51 = .ok (.if_icmp .ne 18, 3) := by decide +kernel
theorem d_S_keep_54 : decode prog_7_method_4_code 54 = .ok (.aload_n 1, 1) := by decide +kernel
theorem d_S_keep_55 : decode prog_7_method_4_code 55 = .ok (.aload 7, 2) := by decide +kernel
theorem d_S_keep_57 : decode prog_7_method_4_code 57 = .ok (.iload_n 3, 1) := by decide +kernel
theorem d_S_keep_58 : decode prog_7_method_4_code 58 = .ok (.iload 4, 2) := by decide +kernel
theorem d_S_keep_60 : decode prog_7_method_4_code 60 = .ok (.invokevirtual 57, 3) := by decide +kernel
theorem d_S_keep_63 : decode prog_7_method_4_code 63 = .ok (.ifCond .eq 6, 3) := by decide +kernel
theorem d_S_keep_66 : decode prog_7_method_4_code 66 = .ok (.aload 7, 2) := by decide +kernel
theorem d_S_keep_68 : decode prog_7_method_4_code 68 = .ok (.areturn, 1) := by decide +kernel
theorem d_S_keep_69 : decode prog_7_method_4_code 69 = .ok (.aload 7, 2) := by decide +kernel
theorem d_S_keep_71 : decode prog_7_method_4_code 71 = .ok (.getfield 61, 3) := by decide +kernel
theorem d_S_keep_74 : decode prog_7_method_4_code 74 = .ok (.astore 7, 2) := by decide +kernel
theorem d_S_keep_76 : decode prog_7_method_4_code 76 = .ok (.goto (-46), 3) := by decide +kernel
theorem d_S_keep_79 : decode prog_7_method_4_code 79 = .ok (.aload_n 0, 1) := by decide +kernel
