/-! the instructions (by program, from the listing) -/
theorem d_D_init_0 : decode prog_1_method_1_code 0 = .ok (.aload_n 0, 1) := by decide +kernel
theorem d_D_init_1 : decode prog_1_method_1_code 1 = .ok (.invokespecial 3, 3) := by decide +kernel
theorem d_D_init_4 : decode prog_1_method_1_code 4 = .ok (.aload_n 0, 1) := by decide +kernel
theorem d_D_init_5 : decode prog_1_method_1_code 5 = .ok (.iconst 2, 1) := by decide +kernel
theorem d_D_init_6 : decode prog_1_method_1_code 6 = .ok (.anewarray 9, 3) := by decide +kernel
theorem d_D_init_9 : decode prog_1_method_1_code 9 = .ok (.putfield 11, 3) := by decide +kernel
theorem d_D_init_12 : decode prog_1_method_1_code 12 = .ok (.aload_n 0, 1) := by decide +kernel
theorem d_D_init_13 : decode prog_1_method_1_code 13 = .ok (.iconst 2, 1) := by decide +kernel
theorem d_D_init_14 : decode prog_1_method_1_code 14 = .ok (.anewarray 15, 3) := by decide +kernel
theorem d_D_init_17 : decode prog_1_method_1_code 17 = .ok (.putfield 17, 3) := by decide +kernel
theorem d_D_init_20 : decode prog_1_method_1_code 20 = .ok (.new 21, 3) := by decide +kernel
theorem d_D_init_23 : decode prog_1_method_1_code 23 = .ok (.dup, 1) := by decide +kernel
theorem d_D_init_24 : decode prog_1_method_1_code 24 = .ok (.invokespecial 23, 3) := by decide +kernel
theorem d_D_init_27 : decode prog_1_method_1_code 27 = .ok (.astore_n 1, 1) := by decide +kernel
theorem d_D_init_28 : decode prog_1_method_1_code 28 = .ok (.aload_n 0, 1) := by decide +kernel
theorem d_D_init_29 : decode prog_1_method_1_code 29 = .ok (.aload_n 1, 1) := by decide +kernel
theorem d_D_init_30 : decode prog_1_method_1_code 30 = .ok (.putfield 24, 3) := by decide +kernel
theorem d_D_init_33 : decode prog_1_method_1_code 33 = .ok (.iconst 0, 1) := by decide +kernel
theorem d_D_init_34 : decode prog_1_method_1_code 34 = .ok (.istore_n 2, 1) := by decide +kernel
theorem d_D_init_35 : decode prog_1_method_1_code 35 = .ok (.iload_n 2, 1) := by decide +kernel
theorem d_D_init_36 : decode prog_1_method_1_code 36 = .ok (.iconst 2, 1) := by decide +kernel
theorem d_D_init_37 : decode prog_1_method_1_code 37 = .ok (.if_icmp .ge 39, 3) := by decide +kernel
theorem d_D_init_40 : decode prog_1_method_1_code 40 = .ok (.new 15, 3) := by decide +kernel
theorem d_D_init_43 : decode prog_1_method_1_code 43 = .ok (.dup, 1) := by decide +kernel
theorem d_D_init_44 : decode prog_1_method_1_code 44 = .ok (.invokespecial 28, 3) := by decide +kernel
theorem d_D_init_47 : decode prog_1_method_1_code 47 = .ok (.astore_n 3, 1) := by decide +kernel
theorem d_D_init_48 : decode prog_1_method_1_code 48 = .ok (.aload_n 0, 1) := by decide +kernel
theorem d_D_init_49 : decode prog_1_method_1_code 49 = .ok (.getfield 17, 3) := by decide +kernel
theorem d_D_init_52 : decode prog_1_method_1_code 52 = .ok (.iload_n 2, 1) := by decide +kernel
theorem d_D_init_53 : decode prog_1_method_1_code 53 = .ok (.aload_n 3, 1) := by decide +kernel
theorem d_D_init_54 : decode prog_1_method_1_code 54 = .ok (.aastore, 1) := by decide +kernel
theorem d_D_init_55 : decode prog_1_method_1_code 55 = .ok (.aload_n 0, 1) := by decide +kernel
theorem d_D_init_56 : decode prog_1_method_1_code 56 = .ok (.getfield 11, 3) := by decide +kernel
theorem d_D_init_59 : decode prog_1_method_1_code 59 = .ok (.iload_n 2, 1) := by decide +kernel
theorem d_D_init_60 : decode prog_1_method_1_code 60 = .ok (.new 9, 3) := by decide +kernel
theorem d_D_init_63 : decode prog_1_method_1_code 63 = .ok (.dup, 1) := by decide +kernel
theorem d_D_init_64 : decode prog_1_method_1_code 64 = .ok (.aload_n 1, 1) := by decide +kernel
theorem d_D_init_65 : decode prog_1_method_1_code 65 = .ok (.aload_n 3, 1) := by decide +kernel
theorem d_D_init_66 : decode prog_1_method_1_code 66 = .ok (.invokespecial 29, 3) := by decide +kernel
theorem d_D_init_69 : decode prog_1_method_1_code 69 = .ok (.aastore, 1) := by decide +kernel
theorem d_D_init_70 : decode prog_1_method_1_code 70 = .ok (.iinc 2 1, 3) := by decide +kernel
theorem d_D_init_73 : decode prog_1_method_1_code 73 = .ok (.goto (-38), 3) := by decide +kernel
theorem d_D_init_76 : decode prog_1_method_1_code 76 = .ok (.return_, 1) := by decide +kernel
theorem d_P_init_0 : decode prog_4_method_1_code 0 = .ok (.aload_n 0, 1) := by decide +kernel
theorem d_P_init_1 : decode prog_4_method_1_code 1 = .ok (.invokespecial 3, 3) := by decide +kernel
theorem d_P_init_4 : decode prog_4_method_1_code 4 = .ok (.aload_n 0, 1) := by decide +kernel
theorem d_P_init_5 : decode prog_4_method_1_code 5 = .ok (.iconst 4, 1) := by decide +kernel
theorem d_P_init_6 : decode prog_4_method_1_code 6 = .ok (.anewarray 9, 3) := by decide +kernel
theorem d_P_init_9 : decode prog_4_method_1_code 9 = .ok (.putfield 11, 3) := by decide +kernel
theorem d_P_init_12 : decode prog_4_method_1_code 12 = .ok (.aload_n 0, 1) := by decide +kernel
theorem d_P_init_13 : decode prog_4_method_1_code 13 = .ok (.sipush 400, 3) := by decide +kernel
theorem d_P_init_16 : decode prog_4_method_1_code 16 = .ok (.anewarray 17, 3) := by decide +kernel
theorem d_P_init_19 : decode prog_4_method_1_code 19 = .ok (.putfield 19, 3) := by decide +kernel
theorem d_P_init_22 : decode prog_4_method_1_code 22 = .ok (.aload_n 0, 1) := by decide +kernel
theorem d_P_init_23 : decode prog_4_method_1_code 23 = .ok (.iconst 0, 1) := by decide +kernel
theorem d_P_init_24 : decode prog_4_method_1_code 24 = .ok (.putfield 23, 3) := by decide +kernel
theorem d_P_init_27 : decode prog_4_method_1_code 27 = .ok (.aload_n 0, 1) := by decide +kernel
theorem d_P_init_28 : decode prog_4_method_1_code 28 = .ok (.sipush 401, 3) := by decide +kernel
theorem d_P_init_31 : decode prog_4_method_1_code 31 = .ok (.newarray .int, 2) := by decide +kernel
theorem d_P_init_33 : decode prog_4_method_1_code 33 = .ok (.putfield 27, 3) := by decide +kernel
theorem d_P_init_36 : decode prog_4_method_1_code 36 = .ok (.aload_n 0, 1) := by decide +kernel
theorem d_P_init_37 : decode prog_4_method_1_code 37 = .ok (.iconst 0, 1) := by decide +kernel
theorem d_P_init_38 : decode prog_4_method_1_code 38 = .ok (.putfield 31, 3) := by decide +kernel
theorem d_P_init_41 : decode prog_4_method_1_code 41 = .ok (.aload_n 0, 1) := by decide +kernel
theorem d_P_init_42 : decode prog_4_method_1_code 42 = .ok (.bipush 8, 2) := by decide +kernel
theorem d_P_init_44 : decode prog_4_method_1_code 44 = .ok (.anewarray 34, 3) := by decide +kernel
theorem d_P_init_47 : decode prog_4_method_1_code 47 = .ok (.putfield 36, 3) := by decide +kernel
theorem d_P_init_50 : decode prog_4_method_1_code 50 = .ok (.aload_n 0, 1) := by decide +kernel
theorem d_P_init_51 : decode prog_4_method_1_code 51 = .ok (.iconst 0, 1) := by decide +kernel
theorem d_P_init_52 : decode prog_4_method_1_code 52 = .ok (.putfield 40, 3) := by decide +kernel
theorem d_P_init_55 : decode prog_4_method_1_code 55 = .ok (.iconst 0, 1) := by decide +kernel
theorem d_P_init_56 : decode prog_4_method_1_code 56 = .ok (.istore_n 1, 1) := by decide +kernel
theorem d_P_init_57 : decode prog_4_method_1_code 57 = .ok (.iload_n 1, 1) := by decide +kernel
theorem d_P_init_58 : decode prog_4_method_1_code 58 = .ok (.iconst 4, 1) := by decide +kernel
theorem d_P_init_59 : decode prog_4_method_1_code 59 = .ok (.if_icmp .ge 22, 3) := by decide +kernel
theorem d_P_init_62 : decode prog_4_method_1_code 62 = .ok (.aload_n 0, 1) := by decide +kernel
theorem d_P_init_63 : decode prog_4_method_1_code 63 = .ok (.getfield 11, 3) := by decide +kernel
theorem d_P_init_66 : decode prog_4_method_1_code 66 = .ok (.iload_n 1, 1) := by decide +kernel
theorem d_P_init_67 : decode prog_4_method_1_code 67 = .ok (.new 9, 3) := by decide +kernel
theorem d_P_init_70 : decode prog_4_method_1_code 70 = .ok (.dup, 1) := by decide +kernel
theorem d_P_init_71 : decode prog_4_method_1_code 71 = .ok (.invokespecial 43, 3) := by decide +kernel
theorem d_P_init_74 : decode prog_4_method_1_code 74 = .ok (.aastore, 1) := by decide +kernel
theorem d_P_init_75 : decode prog_4_method_1_code 75 = .ok (.iinc 1 1, 3) := by decide +kernel
theorem d_P_init_78 : decode prog_4_method_1_code 78 = .ok (.goto (-21), 3) := by decide +kernel
theorem d_P_init_81 : decode prog_4_method_1_code 81 = .ok (.iconst 0, 1) := by decide +kernel
theorem d_P_init_82 : decode prog_4_method_1_code 82 = .ok (.istore_n 1, 1) := by decide +kernel
theorem d_P_init_83 : decode prog_4_method_1_code 83 = .ok (.iload_n 1, 1) := by decide +kernel
theorem d_P_init_84 : decode prog_4_method_1_code 84 = .ok (.bipush 8, 2) := by decide +kernel
theorem d_P_init_86 : decode prog_4_method_1_code 86 = .ok (.if_icmp .ge 22, 3) := by decide +kernel
theorem d_P_init_89 : decode prog_4_method_1_code 89 = .ok (.aload_n 0, 1) := by decide +kernel
theorem d_P_init_90 : decode prog_4_method_1_code 90 = .ok (.getfield 36, 3) := by decide +kernel
theorem d_P_init_93 : decode prog_4_method_1_code 93 = .ok (.iload_n 1, 1) := by decide +kernel
theorem d_P_init_94 : decode prog_4_method_1_code 94 = .ok (.new 34, 3) := by decide +kernel
theorem d_P_init_97 : decode prog_4_method_1_code 97 = .ok (.dup, 1) := by decide +kernel
theorem d_P_init_98 : decode prog_4_method_1_code 98 = .ok (.invokespecial 44, 3) := by decide +kernel
theorem d_P_init_101 : decode prog_4_method_1_code 101 = .ok (.aastore, 1) := by decide +kernel
theorem d_P_init_102 : decode prog_4_method_1_code 102 = .ok (.iinc 1 1, 3) := by decide +kernel
theorem d_P_init_105 : decode prog_4_method_1_code 105 = .ok (.goto (-22), 3) := by decide +kernel
theorem d_P_init_108 : decode prog_4_method_1_code 108 = .ok (.return_, 1) := by decide +kernel
theorem d_B_init_0 : decode prog_2_method_1_code 0 = .ok (.aload_n 0, 1) := by decide +kernel
theorem d_B_init_1 : decode prog_2_method_1_code 1 = .ok (.invokespecial 3, 3) := by decide +kernel
theorem d_B_init_4 : decode prog_2_method_1_code 4 = .ok (.aload_n 0, 1) := by decide +kernel
theorem d_B_init_5 : decode prog_2_method_1_code 5 = .ok (.bipush 24, 2) := by decide +kernel
theorem d_B_init_7 : decode prog_2_method_1_code 7 = .ok (.newarray .int, 2) := by decide +kernel
theorem d_B_init_9 : decode prog_2_method_1_code 9 = .ok (.putfield 9, 3) := by decide +kernel
theorem d_B_init_12 : decode prog_2_method_1_code 12 = .ok (.aload_n 0, 1) := by decide +kernel
theorem d_B_init_13 : decode prog_2_method_1_code 13 = .ok (.bipush 24, 2) := by decide +kernel
theorem d_B_init_15 : decode prog_2_method_1_code 15 = .ok (.newarray .int, 2) := by decide +kernel
theorem d_B_init_17 : decode prog_2_method_1_code 17 = .ok (.putfield 15, 3) := by decide +kernel
theorem d_B_init_20 : decode prog_2_method_1_code 20 = .ok (.aload_n 0, 1) := by decide +kernel
theorem d_B_init_21 : decode prog_2_method_1_code 21 = .ok (.bipush 24, 2) := by decide +kernel
theorem d_B_init_23 : decode prog_2_method_1_code 23 = .ok (.newarray .int, 2) := by decide +kernel
theorem d_B_init_25 : decode prog_2_method_1_code 25 = .ok (.putfield 18, 3) := by decide +kernel
theorem d_B_init_28 : decode prog_2_method_1_code 28 = .ok (.aload_n 0, 1) := by decide +kernel
theorem d_B_init_29 : decode prog_2_method_1_code 29 = .ok (.iconst 0, 1) := by decide +kernel
theorem d_B_init_30 : decode prog_2_method_1_code 30 = .ok (.putfield 21, 3) := by decide +kernel
theorem d_B_init_33 : decode prog_2_method_1_code 33 = .ok (.aload_n 0, 1) := by decide +kernel
theorem d_B_init_34 : decode prog_2_method_1_code 34 = .ok (.iconst 0, 1) := by decide +kernel
theorem d_B_init_35 : decode prog_2_method_1_code 35 = .ok (.putfield 25, 3) := by decide +kernel
theorem d_B_init_38 : decode prog_2_method_1_code 38 = .ok (.aload_n 0, 1) := by decide +kernel
theorem d_B_init_39 : decode prog_2_method_1_code 39 = .ok (.iconst 0, 1) := by decide +kernel
theorem d_B_init_40 : decode prog_2_method_1_code 40 = .ok (.putfield 28, 3) := by decide +kernel
theorem d_B_init_43 : decode prog_2_method_1_code 43 = .ok (.aload_n 0, 1) := by decide +kernel
theorem d_B_init_44 : decode prog_2_method_1_code 44 = .ok (.iconst 0, 1) := by decide +kernel
theorem d_B_init_45 : decode prog_2_method_1_code 45 = .ok (.putfield 32, 3) := by decide +kernel
theorem d_B_init_48 : decode prog_2_method_1_code 48 = .ok (.return_, 1) := by decide +kernel
theorem d_S_init_0 : decode prog_7_method_1_code 0 = .ok (.aload_n 0, 1) := by decide +kernel
theorem d_S_init_1 : decode prog_7_method_1_code 1 = .ok (.invokespecial 3, 3) := by decide +kernel
theorem d_S_init_4 : decode prog_7_method_1_code 4 = .ok (.aload_n 0, 1) := by decide +kernel
theorem d_S_init_5 : decode prog_7_method_1_code 5 = .ok (.new 9, 3) := by decide +kernel
theorem d_S_init_8 : decode prog_7_method_1_code 8 = .ok (.dup, 1) := by decide +kernel
theorem d_S_init_9 : decode prog_7_method_1_code 9 = .ok (.invokespecial 11, 3) := by decide +kernel
theorem d_S_init_12 : decode prog_7_method_1_code 12 = .ok (.putfield 12, 3) := by decide +kernel
theorem d_S_init_15 : decode prog_7_method_1_code 15 = .ok (.aload_n 0, 1) := by decide +kernel
theorem d_S_init_16 : decode prog_7_method_1_code 16 = .ok (.iconst 0, 1) := by decide +kernel
theorem d_S_init_17 : decode prog_7_method_1_code 17 = .ok (.putfield 18, 3) := by decide +kernel
theorem d_S_init_20 : decode prog_7_method_1_code 20 = .ok (.aload_n 0, 1) := by decide +kernel
theorem d_S_init_21 : decode prog_7_method_1_code 21 = .ok (.iconst 0, 1) := by decide +kernel
theorem d_S_init_22 : decode prog_7_method_1_code 22 = .ok (.putfield 22, 3) := by decide +kernel
theorem d_S_init_25 : decode prog_7_method_1_code 25 = .ok (.return_, 1) := by decide +kernel
theorem d_W_init_0 : decode prog_5_method_1_code 0 = .ok (.aload_n 0, 1) := by decide +kernel
theorem d_W_init_1 : decode prog_5_method_1_code 1 = .ok (.invokespecial 3, 3) := by decide +kernel
theorem d_W_init_4 : decode prog_5_method_1_code 4 = .ok (.aload_n 0, 1) := by decide +kernel
theorem d_W_init_5 : decode prog_5_method_1_code 5 = .ok (.iconst 4, 1) := by decide +kernel
theorem d_W_init_6 : decode prog_5_method_1_code 6 = .ok (.newarray .int, 2) := by decide +kernel
theorem d_W_init_8 : decode prog_5_method_1_code 8 = .ok (.putfield 9, 3) := by decide +kernel
theorem d_W_init_11 : decode prog_5_method_1_code 11 = .ok (.aload_n 0, 1) := by decide +kernel
theorem d_W_init_12 : decode prog_5_method_1_code 12 = .ok (.iconst 0, 1) := by decide +kernel
theorem d_W_init_13 : decode prog_5_method_1_code 13 = .ok (.putfield 15, 3) := by decide +kernel
theorem d_W_init_16 : decode prog_5_method_1_code 16 = .ok (.aload_n 0, 1) := by decide +kernel
theorem d_W_init_17 : decode prog_5_method_1_code 17 = .ok (.invokestatic 19, 3) := by decide +kernel
theorem d_W_init_20 : decode prog_5_method_1_code 20 = .ok (.putfield 23, 3) := by decide +kernel
theorem d_W_init_23 : decode prog_5_method_1_code 23 = .ok (.return_, 1) := by decide +kernel
theorem d_D_emptyView_0 : decode prog_1_method_30_code 0 = .ok (.bipush 19, 2) := by decide +kernel
theorem d_D_emptyView_2 : decode prog_1_method_30_code 2 = .ok (.newarray .int, 2) := by decide +kernel
theorem d_D_emptyView_4 : decode prog_1_method_30_code 4 = .ok (.astore_n 0, 1) := by decide +kernel
theorem d_D_emptyView_5 : decode prog_1_method_30_code 5 = .ok (.aload_n 0, 1) := by decide +kernel
theorem d_D_emptyView_6 : decode prog_1_method_30_code 6 = .ok (.ldc 157, 2) := by decide +kernel
theorem d_D_emptyView_8 : decode prog_1_method_30_code 8 = .ok (.invokestatic 158, 3) := by decide +kernel
theorem d_D_emptyView_11 : decode prog_1_method_30_code 11 = .ok (.aload_n 0, 1) := by decide +kernel
theorem d_D_emptyView_12 : decode prog_1_method_30_code 12 = .ok (.areturn, 1) := by decide +kernel
theorem d_A_fill_0 : decode prog_13_method_103_code 0 = .ok (.iconst 0, 1) := by decide +kernel
theorem d_A_fill_1 : decode prog_13_method_103_code 1 = .ok (.istore_n 2, 1) := by decide +kernel
theorem d_A_fill_2 : decode prog_13_method_103_code 2 = .ok (.aload_n 0, 1) := by decide +kernel
theorem d_A_fill_3 : decode prog_13_method_103_code 3 = .ok (.arraylength, 1) := by decide +kernel
theorem d_A_fill_4 : decode prog_13_method_103_code 4 = .ok (.istore_n 3, 1) := by decide +kernel
theorem d_A_fill_5 : decode prog_13_method_103_code 5 = .ok (.iload_n 2, 1) := by decide +kernel
theorem d_A_fill_6 : decode prog_13_method_103_code 6 = .ok (.iload_n 3, 1) := by decide +kernel
theorem d_A_fill_7 : decode prog_13_method_103_code 7 = .ok (.if_icmp .ge 13, 3) := by decide +kernel
theorem d_A_fill_10 : decode prog_13_method_103_code 10 = .ok (.aload_n 0, 1) := by decide +kernel
theorem d_A_fill_11 : decode prog_13_method_103_code 11 = .ok (.iload_n 2, 1) := by decide +kernel
theorem d_A_fill_12 : decode prog_13_method_103_code 12 = .ok (.iload_n 1, 1) := by decide +kernel
theorem d_A_fill_13 : decode prog_13_method_103_code 13 = .ok (.iastore, 1) := by decide +kernel
theorem d_A_fill_14 : decode prog_13_method_103_code 14 = .ok (.iinc 2 1, 3) := by decide +kernel
theorem d_A_fill_17 : decode prog_13_method_103_code 17 = .ok (.goto (-12), 3) := by decide +kernel
theorem d_A_fill_20 : decode prog_13_method_103_code 20 = .ok (.return_, 1) := by decide +kernel
theorem d_V_init_0 : decode prog_6_method_1_code 0 = .ok (.aload_n 0, 1) := by decide +kernel
theorem d_V_init_1 : decode prog_6_method_1_code 1 = .ok (.invokespecial 3, 3) := by decide +kernel
theorem d_V_init_4 : decode prog_6_method_1_code 4 = .ok (.aload_n 0, 1) := by decide +kernel
theorem d_V_init_5 : decode prog_6_method_1_code 5 = .ok (.iconst 4, 1) := by decide +kernel
theorem d_V_init_6 : decode prog_6_method_1_code 6 = .ok (.anewarray 9, 3) := by decide +kernel
theorem d_V_init_9 : decode prog_6_method_1_code 9 = .ok (.putfield 11, 3) := by decide +kernel
theorem d_V_init_12 : decode prog_6_method_1_code 12 = .ok (.aload_n 0, 1) := by decide +kernel
theorem d_V_init_13 : decode prog_6_method_1_code 13 = .ok (.iconst 1, 1) := by decide +kernel
theorem d_V_init_14 : decode prog_6_method_1_code 14 = .ok (.putfield 17, 3) := by decide +kernel
theorem d_V_init_17 : decode prog_6_method_1_code 17 = .ok (.aload_n 0, 1) := by decide +kernel
theorem d_V_init_18 : decode prog_6_method_1_code 18 = .ok (.iconst 0, 1) := by decide +kernel
theorem d_V_init_19 : decode prog_6_method_1_code 19 = .ok (.putfield 21, 3) := by decide +kernel
theorem d_V_init_22 : decode prog_6_method_1_code 22 = .ok (.aload_n 0, 1) := by decide +kernel
theorem d_V_init_23 : decode prog_6_method_1_code 23 = .ok (.bipush 8, 2) := by decide +kernel
theorem d_V_init_25 : decode prog_6_method_1_code 25 = .ok (.newarray .boolean, 2) := by decide +kernel
theorem d_V_init_27 : decode prog_6_method_1_code 27 = .ok (.putfield 24, 3) := by decide +kernel
theorem d_V_init_30 : decode prog_6_method_1_code 30 = .ok (.aload_n 0, 1) := by decide +kernel
theorem d_V_init_31 : decode prog_6_method_1_code 31 = .ok (.iconst 0, 1) := by decide +kernel
theorem d_V_init_32 : decode prog_6_method_1_code 32 = .ok (.putfield 28, 3) := by decide +kernel
theorem d_V_init_35 : decode prog_6_method_1_code 35 = .ok (.aload_n 0, 1) := by decide +kernel
theorem d_V_init_36 : decode prog_6_method_1_code 36 = .ok (.aload_n 1, 1) := by decide +kernel
theorem d_V_init_37 : decode prog_6_method_1_code 37 = .ok (.putfield 31, 3) := by decide +kernel
theorem d_V_init_40 : decode prog_6_method_1_code 40 = .ok (.iconst 0, 1) := by decide +kernel
theorem d_V_init_41 : decode prog_6_method_1_code 41 = .ok (.istore_n 3, 1) := by decide +kernel
theorem d_V_init_42 : decode prog_6_method_1_code 42 = .ok (.iload_n 3, 1) := by decide +kernel
theorem d_V_init_43 : decode prog_6_method_1_code 43 = .ok (.iconst 4, 1) := by decide +kernel
theorem d_V_init_44 : decode prog_6_method_1_code 44 = .ok (.if_icmp .ge 24, 3) := by decide +kernel
theorem d_V_init_47 : decode prog_6_method_1_code 47 = .ok (.aload_n 0, 1) := by decide +kernel
theorem d_V_init_48 : decode prog_6_method_1_code 48 = .ok (.getfield 11, 3) := by decide +kernel
theorem d_V_init_51 : decode prog_6_method_1_code 51 = .ok (.iload_n 3, 1) := by decide +kernel
theorem d_V_init_52 : decode prog_6_method_1_code 52 = .ok (.new 9, 3) := by decide +kernel
theorem d_V_init_55 : decode prog_6_method_1_code 55 = .ok (.dup, 1) := by decide +kernel
theorem d_V_init_56 : decode prog_6_method_1_code 56 = .ok (.iload_n 3, 1) := by decide +kernel
theorem d_V_init_57 : decode prog_6_method_1_code 57 = .ok (.aload_n 2, 1) := by decide +kernel
theorem d_V_init_58 : decode prog_6_method_1_code 58 = .ok (.invokespecial 35, 3) := by decide +kernel
theorem d_V_init_61 : decode prog_6_method_1_code 61 = .ok (.aastore, 1) := by decide +kernel
theorem d_V_init_62 : decode prog_6_method_1_code 62 = .ok (.iinc 3 1, 3) := by decide +kernel
theorem d_V_init_65 : decode prog_6_method_1_code 65 = .ok (.goto (-23), 3) := by decide +kernel
theorem d_V_init_68 : decode prog_6_method_1_code 68 = .ok (.return_, 1) := by decide +kernel
theorem d_T_init_0 : decode prog_8_method_1_code 0 = .ok (.aload_n 0, 1) := by decide +kernel
theorem d_T_init_1 : decode prog_8_method_1_code 1 = .ok (.invokespecial 3, 3) := by decide +kernel
theorem d_T_init_4 : decode prog_8_method_1_code 4 = .ok (.aload_n 0, 1) := by decide +kernel
theorem d_T_init_5 : decode prog_8_method_1_code 5 = .ok (.new 9, 3) := by decide +kernel
theorem d_T_init_8 : decode prog_8_method_1_code 8 = .ok (.dup, 1) := by decide +kernel
theorem d_T_init_9 : decode prog_8_method_1_code 9 = .ok (.invokespecial 11, 3) := by decide +kernel
theorem d_T_init_12 : decode prog_8_method_1_code 12 = .ok (.putfield 12, 3) := by decide +kernel
theorem d_T_init_15 : decode prog_8_method_1_code 15 = .ok (.aload_n 0, 1) := by decide +kernel
theorem d_T_init_16 : decode prog_8_method_1_code 16 = .ok (.invokestatic 18, 3) := by decide +kernel
theorem d_T_init_19 : decode prog_8_method_1_code 19 = .ok (.putfield 22, 3) := by decide +kernel
theorem d_T_init_22 : decode prog_8_method_1_code 22 = .ok (.aload_n 0, 1) := by decide +kernel
theorem d_T_init_23 : decode prog_8_method_1_code 23 = .ok (.bipush 30, 2) := by decide +kernel
theorem d_T_init_25 : decode prog_8_method_1_code 25 = .ok (.anewarray 26, 3) := by decide +kernel
theorem d_T_init_28 : decode prog_8_method_1_code 28 = .ok (.putfield 28, 3) := by decide +kernel
theorem d_T_init_31 : decode prog_8_method_1_code 31 = .ok (.aload_n 0, 1) := by decide +kernel
theorem d_T_init_32 : decode prog_8_method_1_code 32 = .ok (.iconst 0, 1) := by decide +kernel
theorem d_T_init_33 : decode prog_8_method_1_code 33 = .ok (.putfield 32, 3) := by decide +kernel
theorem d_T_init_36 : decode prog_8_method_1_code 36 = .ok (.aload_n 0, 1) := by decide +kernel
theorem d_T_init_37 : decode prog_8_method_1_code 37 = .ok (.iconst 0, 1) := by decide +kernel
theorem d_T_init_38 : decode prog_8_method_1_code 38 = .ok (.putfield 36, 3) := by decide +kernel
theorem d_T_init_41 : decode prog_8_method_1_code 41 = .ok (.aload_n 0, 1) := by decide +kernel
theorem d_T_init_42 : decode prog_8_method_1_code 42 = .ok (.iload_n 1, 1) := by decide +kernel
theorem d_T_init_43 : decode prog_8_method_1_code 43 = .ok (.putfield 39, 3) := by decide +kernel
theorem d_T_init_46 : decode prog_8_method_1_code 46 = .ok (.aload_n 0, 1) := by decide +kernel
theorem d_T_init_47 : decode prog_8_method_1_code 47 = .ok (.aload_n 2, 1) := by decide +kernel
theorem d_T_init_48 : decode prog_8_method_1_code 48 = .ok (.putfield 42, 3) := by decide +kernel
theorem d_T_init_51 : decode prog_8_method_1_code 51 = .ok (.aload_n 0, 1) := by decide +kernel
theorem d_T_init_52 : decode prog_8_method_1_code 52 = .ok (.getfield 22, 3) := by decide +kernel
theorem d_T_init_55 : decode prog_8_method_1_code 55 = .ok (.bipush 18, 2) := by decide +kernel
theorem d_T_init_57 : decode prog_8_method_1_code 57 = .ok (.iconst 0, 1) := by decide +kernel
theorem d_T_init_58 : decode prog_8_method_1_code 58 = .ok (.iastore, 1) := by decide +kernel
theorem d_T_init_59 : decode prog_8_method_1_code 59 = .ok (.return_, 1) := by decide +kernel
theorem d_D_add_0 : decode prog_1_method_2_code 0 = .ok (.iload_n 1, 1) := by decide +kernel
theorem d_D_add_1 : decode prog_1_method_2_code 1 = .ok (.invokestatic 32, 3) := by decide +kernel
theorem d_D_add_4 : decode prog_1_method_2_code 4 = .ok (.ifCond .eq 25, 3) := by decide +kernel
theorem d_D_add_7 : decode prog_1_method_2_code 7 = .ok (.iload_n 2, 1) := by decide +kernel
theorem d_D_add_8 : decode prog_1_method_2_code 8 = .ok (.invokestatic 36, 3) := by decide +kernel
theorem d_D_add_11 : decode prog_1_method_2_code 11 = .ok (.ifCond .eq 18, 3) := by decide +kernel
theorem d_D_add_14 : decode prog_1_method_2_code 14 = .ok (.iload_n 3, 1) := by decide +kernel
theorem d_D_add_15 : decode prog_1_method_2_code 15 = .ok (.invokestatic 39, 3) := by decide +kernel
theorem d_D_add_18 : decode prog_1_method_2_code 18 = .ok (.ifCond .eq 11, 3) := by decide +kernel
theorem d_D_add_21 : decode prog_1_method_2_code 21 = .ok (.iload 5, 2) := by decide +kernel
theorem d_D_add_23 : decode prog_1_method_2_code 23 = .ok (.invokestatic 36, 3) := by decide +kernel
theorem d_D_add_26 : decode prog_1_method_2_code 26 = .ok (.ifCond .ne 6, 3) := by decide +kernel
theorem d_D_add_29 : decode prog_1_method_2_code 29 = .ok (.bipush (-2), 2) := by decide +kernel
theorem d_D_add_31 : decode prog_1_method_2_code 31 = .ok (.ireturn, 1) := by decide +kernel
theorem d_D_add_32 : decode prog_1_method_2_code 32 = .ok (.iload 4, 2) := by decide +kernel
theorem d_D_add_34 : decode prog_1_method_2_code 34 = .ok (.ldc 42, 2) := by decide +kernel
theorem d_D_add_36 : decode prog_1_method_2_code 36 = .ok (.if_icmp .lt 10, 3) := by decide +kernel
theorem d_D_add_39 : decode prog_1_method_2_code 39 = .ok (.iload 4, 2) := by decide +kernel
theorem d_D_add_41 : decode prog_1_method_2_code 41 = .ok (.ldc 43, 2) := by decide +kernel
theorem d_D_add_43 : decode prog_1_method_2_code 43 = .ok (.if_icmp .le 6, 3) := by decide +kernel
theorem d_D_add_46 : decode prog_1_method_2_code 46 = .ok (.bipush (-2), 2) := by decide +kernel
theorem d_D_add_48 : decode prog_1_method_2_code 48 = .ok (.ireturn, 1) := by decide +kernel
theorem d_D_add_49 : decode prog_1_method_2_code 49 = .ok (.aload_n 0, 1) := by decide +kernel
theorem d_D_add_50 : decode prog_1_method_2_code 50 = .ok (.getfield 24, 3) := by decide +kernel
theorem d_D_add_53 : decode prog_1_method_2_code 53 = .ok (.iconst 0, 1) := by decide +kernel
theorem d_D_add_54 : decode prog_1_method_2_code 54 = .ok (.iload_n 1, 1) := by decide +kernel
theorem d_D_add_55 : decode prog_1_method_2_code 55 = .ok (.iload_n 2, 1) := by decide +kernel
theorem d_D_add_56 : decode prog_1_method_2_code 56 = .ok (.iload_n 3, 1) := by decide +kernel
theorem d_D_add_57 : decode prog_1_method_2_code 57 = .ok (.iload 4, 2) := by decide +kernel
theorem d_D_add_59 : decode prog_1_method_2_code 59 = .ok (.iload 5, 2) := by decide +kernel
theorem d_D_add_61 : decode prog_1_method_2_code 61 = .ok (.invokevirtual 44, 3) := by decide +kernel
theorem d_D_add_64 : decode prog_1_method_2_code 64 = .ok (.ireturn, 1) := by decide +kernel
theorem d_D_isInstrument_0 : decode prog_1_method_24_code 0 = .ok (.iload_n 0, 1) := by decide +kernel
theorem d_D_isInstrument_1 : decode prog_1_method_24_code 1 = .ok (.ifCond .lt 12, 3) := by decide +kernel
theorem d_D_isInstrument_4 : decode prog_1_method_24_code 4 = .ok (.iload_n 0, 1) := by decide +kernel
theorem d_D_isInstrument_5 : decode prog_1_method_24_code 5 = .ok (.iconst 4, 1) := by decide +kernel
theorem d_D_isInstrument_6 : decode prog_1_method_24_code 6 = .ok (.if_icmp .ge 7, 3) := by decide +kernel
theorem d_D_isInstrument_9 : decode prog_1_method_24_code 9 = .ok (.iconst 1, 1) := by decide +kernel
theorem d_D_isInstrument_10 : decode prog_1_method_24_code 10 = .ok (.goto 4, 3) := by decide +kernel
theorem d_D_isInstrument_13 : decode prog_1_method_24_code 13 = .ok (.iconst 0, 1) := by decide +kernel
theorem d_D_isInstrument_14 : decode prog_1_method_24_code 14 = .ok (.ireturn, 1) := by decide +kernel
theorem d_D_isCount_0 : decode prog_1_method_27_code 0 = .ok (.iload_n 0, 1) := by decide +kernel
theorem d_D_isCount_1 : decode prog_1_method_27_code 1 = .ok (.iconst 1, 1) := by decide +kernel
theorem d_D_isCount_2 : decode prog_1_method_27_code 2 = .ok (.if_icmp .lt 13, 3) := by decide +kernel
theorem d_D_isCount_5 : decode prog_1_method_27_code 5 = .ok (.iload_n 0, 1) := by decide +kernel
theorem d_D_isCount_6 : decode prog_1_method_27_code 6 = .ok (.ldc 43, 2) := by decide +kernel
theorem d_D_isCount_8 : decode prog_1_method_27_code 8 = .ok (.if_icmp .gt 7, 3) := by decide +kernel
theorem d_D_isCount_11 : decode prog_1_method_27_code 11 = .ok (.iconst 1, 1) := by decide +kernel
theorem d_D_isCount_12 : decode prog_1_method_27_code 12 = .ok (.goto 4, 3) := by decide +kernel
theorem d_D_isCount_15 : decode prog_1_method_27_code 15 = .ok (.iconst 0, 1) := by decide +kernel
theorem d_D_isCount_16 : decode prog_1_method_27_code 16 = .ok (.ireturn, 1) := by decide +kernel
theorem d_D_isSide_0 : decode prog_1_method_26_code 0 = .ok (.iload_n 0, 1) := by decide +kernel
theorem d_D_isSide_1 : decode prog_1_method_26_code 1 = .ok (.ifCond .lt 12, 3) := by decide +kernel
theorem d_D_isSide_4 : decode prog_1_method_26_code 4 = .ok (.iload_n 0, 1) := by decide +kernel
theorem d_D_isSide_5 : decode prog_1_method_26_code 5 = .ok (.iconst 2, 1) := by decide +kernel
theorem d_D_isSide_6 : decode prog_1_method_26_code 6 = .ok (.if_icmp .ge 7, 3) := by decide +kernel
theorem d_D_isSide_9 : decode prog_1_method_26_code 9 = .ok (.iconst 1, 1) := by decide +kernel
theorem d_D_isSide_10 : decode prog_1_method_26_code 10 = .ok (.goto 4, 3) := by decide +kernel
theorem d_D_isSide_13 : decode prog_1_method_26_code 13 = .ok (.iconst 0, 1) := by decide +kernel
theorem d_D_isSide_14 : decode prog_1_method_26_code 14 = .ok (.ireturn, 1) := by decide +kernel
theorem d_P_offer_0 : decode prog_4_method_2_code 0 = .ok (.aload_n 0, 1) := by decide +kernel
theorem d_P_offer_1 : decode prog_4_method_2_code 1 = .ok (.getfield 11, 3) := by decide +kernel
theorem d_P_offer_4 : decode prog_4_method_2_code 4 = .ok (.iload_n 2, 1) := by decide +kernel
theorem d_P_offer_5 : decode prog_4_method_2_code 5 = .ok (.aaload, 1) := by decide +kernel
theorem d_P_offer_6 : decode prog_4_method_2_code 6 = .ok (.astore 7, 2) := by decide +kernel
theorem d_P_offer_8 : decode prog_4_method_2_code 8 = .ok (.aload 7, 2) := by decide +kernel
theorem d_P_offer_10 : decode prog_4_method_2_code 10 = .ok (.iload_n 1, 1) := by decide +kernel
theorem d_P_offer_11 : decode prog_4_method_2_code 11 = .ok (.iload_n 3, 1) := by decide +kernel
theorem d_P_offer_12 : decode prog_4_method_2_code 12 = .ok (.iload 6, 2) := by decide +kernel
theorem d_P_offer_14 : decode prog_4_method_2_code 14 = .ok (.invokevirtual 45, 3) := by decide +kernel
theorem d_P_offer_17 : decode prog_4_method_2_code 17 = .ok (.ifCond .ne 6, 3) := by decide +kernel
theorem d_P_offer_20 : decode prog_4_method_2_code 20 = .ok (.bipush (-3), 2) := by decide +kernel
theorem d_P_offer_22 : decode prog_4_method_2_code 22 = .ok (.ireturn, 1) := by decide +kernel
theorem d_P_offer_23 : decode prog_4_method_2_code 23 = .ok (.aload_n 0, 1) := by decide +kernel
theorem d_P_offer_24 : decode prog_4_method_2_code 24 = .ok (.getfield 23, 3) := by decide +kernel
theorem d_P_offer_27 : decode prog_4_method_2_code 27 = .ok (.aload_n 0, 1) := by decide +kernel
theorem d_P_offer_28 : decode prog_4_method_2_code 28 = .ok (.getfield 27, 3) := by decide +kernel
theorem d_P_offer_31 : decode prog_4_method_2_code 31 = .ok (.aload_n 0, 1) := by decide +kernel
theorem d_P_offer_32 : decode prog_4_method_2_code 32 = .ok (.getfield 31, 3) := by decide +kernel
theorem d_P_offer_35 : decode prog_4_method_2_code 35 = .ok (.iaload, 1) := by decide +kernel
theorem d_P_offer_36 : decode prog_4_method_2_code 36 = .ok (.isub, 1) := by decide +kernel
theorem d_P_offer_37 : decode prog_4_method_2_code 37 = .ok (.iconst 5, 1) := by decide +kernel
theorem d_P_offer_38 : decode prog_4_method_2_code 38 = .ok (.if_icmp .ge 13, 3) := by decide +kernel
theorem d_P_offer_41 : decode prog_4_method_2_code 41 = .ok (.aload_n 0, 1) := by decide +kernel
theorem d_P_offer_42 : decode prog_4_method_2_code 42 = .ok (.getfield 23, 3) := by decide +kernel
theorem d_P_offer_45 : decode prog_4_method_2_code 45 = .ok (.sipush 400, 3) := by decide +kernel
theorem d_P_offer_48 : decode prog_4_method_2_code 48 = .ok (.if_icmp .lt 6, 3) := by decide +kernel
theorem d_P_offer_51 : decode prog_4_method_2_code 51 = .ok (.bipush (-4), 2) := by decide +kernel
theorem d_P_offer_53 : decode prog_4_method_2_code 53 = .ok (.ireturn, 1) := by decide +kernel
theorem d_P_offer_54 : decode prog_4_method_2_code 54 = .ok (.new 17, 3) := by decide +kernel
theorem d_P_offer_57 : decode prog_4_method_2_code 57 = .ok (.dup, 1) := by decide +kernel
theorem d_P_offer_58 : decode prog_4_method_2_code 58 = .ok (.iload_n 1, 1) := by decide +kernel
theorem d_P_offer_59 : decode prog_4_method_2_code 59 = .ok (.iload_n 2, 1) := by decide +kernel
theorem d_P_offer_60 : decode prog_4_method_2_code 60 = .ok (.aload 7, 2) := by decide +kernel
theorem d_P_offer_62 : decode prog_4_method_2_code 62 = .ok (.getfield 49, 3) := by decide +kernel
theorem d_P_offer_65 : decode prog_4_method_2_code 65 = .ok (.iconst 1, 1) := by decide +kernel
theorem d_P_offer_66 : decode prog_4_method_2_code 66 = .ok (.iadd, 1) := by decide +kernel
theorem d_P_offer_67 : decode prog_4_method_2_code 67 = .ok (.iload_n 3, 1) := by decide +kernel
theorem d_P_offer_68 : decode prog_4_method_2_code 68 = .ok (.iload 4, 2) := by decide +kernel
theorem d_P_offer_70 : decode prog_4_method_2_code 70 = .ok (.iload 5, 2) := by decide +kernel
theorem d_P_offer_72 : decode prog_4_method_2_code 72 = .ok (.iload 6, 2) := by decide +kernel
theorem d_P_offer_74 : decode prog_4_method_2_code 74 = .ok (.invokespecial 52, 3) := by decide +kernel
theorem d_P_offer_77 : decode prog_4_method_2_code 77 = .ok (.astore 8, 2) := by decide +kernel
theorem d_P_offer_79 : decode prog_4_method_2_code 79 = .ok (.aload_n 0, 1) := by decide +kernel
theorem d_P_offer_80 : decode prog_4_method_2_code 80 = .ok (.getfield 19, 3) := by decide +kernel
theorem d_P_offer_83 : decode prog_4_method_2_code 83 = .ok (.aload_n 0, 1) := by decide +kernel
theorem d_P_offer_84 : decode prog_4_method_2_code 84 = .ok (.getfield 23, 3) := by decide +kernel
theorem d_P_offer_87 : decode prog_4_method_2_code 87 = .ok (.aload 8, 2) := by decide +kernel
theorem d_P_offer_89 : decode prog_4_method_2_code 89 = .ok (.aastore, 1) := by decide +kernel
theorem d_P_offer_90 : decode prog_4_method_2_code 90 = .ok (.aload_n 0, 1) := by decide +kernel
theorem d_P_offer_91 : decode prog_4_method_2_code 91 = .ok (.dup, 1) := by decide +kernel
theorem d_P_offer_92 : decode prog_4_method_2_code 92 = .ok (.getfield 23, 3) := by decide +kernel
theorem d_P_offer_95 : decode prog_4_method_2_code 95 = .ok (.iconst 1, 1) := by decide +kernel
theorem d_P_offer_96 : decode prog_4_method_2_code 96 = .ok (.iadd, 1) := by decide +kernel
theorem d_P_offer_97 : decode prog_4_method_2_code 97 = .ok (.putfield 23, 3) := by decide +kernel
theorem d_P_offer_100 : decode prog_4_method_2_code 100 = .ok (.aload 7, 2) := by decide +kernel
theorem d_P_offer_102 : decode prog_4_method_2_code 102 = .ok (.aload 8, 2) := by decide +kernel
theorem d_P_offer_104 : decode prog_4_method_2_code 104 = .ok (.invokevirtual 55, 3) := by decide +kernel
theorem d_P_offer_107 : decode prog_4_method_2_code 107 = .ok (.aload 8, 2) := by decide +kernel
theorem d_P_offer_109 : decode prog_4_method_2_code 109 = .ok (.getfield 59, 3) := by decide +kernel
theorem d_P_offer_112 : decode prog_4_method_2_code 112 = .ok (.ireturn, 1) := by decide +kernel
theorem d_B_allows_0 : decode prog_2_method_2_code 0 = .ok (.aload_n 0, 1) := by decide +kernel
theorem d_B_allows_1 : decode prog_2_method_2_code 1 = .ok (.iload_n 2, 1) := by decide +kernel
theorem d_B_allows_2 : decode prog_2_method_2_code 2 = .ok (.invokevirtual 35, 3) := by decide +kernel
theorem d_B_allows_5 : decode prog_2_method_2_code 5 = .ok (.istore 4, 2) := by decide +kernel
theorem d_B_allows_7 : decode prog_2_method_2_code 7 = .ok (.iload_n 1, 1) := by decide +kernel
theorem d_B_allows_8 : decode prog_2_method_2_code 8 = .ok (.tableswitch 136 0 4 #[36, 57, 80, 110, 122], 36) := by decide +kernel
theorem d_B_allows_44 : decode prog_2_method_2_code 44 = .ok (.iload 4, 2) := by decide +kernel
theorem d_B_allows_46 : decode prog_2_method_2_code 46 = .ok (.iconst (-1), 1) := by decide +kernel
theorem d_B_allows_47 : decode prog_2_method_2_code 47 = .ok (.if_icmp .ne 16, 3) := by decide +kernel
theorem d_B_allows_50 : decode prog_2_method_2_code 50 = .ok (.aload_n 0, 1) := by decide +kernel
theorem d_B_allows_51 : decode prog_2_method_2_code 51 = .ok (.getfield 25, 3) := by decide +kernel
theorem d_B_allows_54 : decode prog_2_method_2_code 54 = .ok (.bipush 24, 2) := by decide +kernel
theorem d_B_allows_56 : decode prog_2_method_2_code 56 = .ok (.if_icmp .ge 7, 3) := by decide +kernel
theorem d_B_allows_59 : decode prog_2_method_2_code 59 = .ok (.iconst 1, 1) := by decide +kernel
theorem d_B_allows_60 : decode prog_2_method_2_code 60 = .ok (.goto 4, 3) := by decide +kernel
theorem d_B_allows_63 : decode prog_2_method_2_code 63 = .ok (.iconst 0, 1) := by decide +kernel
theorem d_B_allows_64 : decode prog_2_method_2_code 64 = .ok (.ireturn, 1) := by decide +kernel
theorem d_B_allows_65 : decode prog_2_method_2_code 65 = .ok (.iload 4, 2) := by decide +kernel
theorem d_B_allows_67 : decode prog_2_method_2_code 67 = .ok (.iconst (-1), 1) := by decide +kernel
theorem d_B_allows_68 : decode prog_2_method_2_code 68 = .ok (.if_icmp .eq 18, 3) := by decide +kernel
theorem d_B_allows_71 : decode prog_2_method_2_code 71 = .ok (.iload_n 3, 1) := by decide +kernel
theorem d_B_allows_72 : decode prog_2_method_2_code 72 = .ok (.aload_n 0, 1) := by decide +kernel
theorem d_B_allows_73 : decode prog_2_method_2_code 73 = .ok (.getfield 18, 3) := by decide +kernel
theorem d_B_allows_76 : decode prog_2_method_2_code 76 = .ok (.iload 4, 2) := by decide +kernel
theorem d_B_allows_78 : decode prog_2_method_2_code 78 = .ok (.iaload, 1) := by decide +kernel
theorem d_B_allows_79 : decode prog_2_method_2_code 79 = .ok (.if_icmp .ge 7, 3) := by decide +kernel
theorem d_B_allows_82 : decode prog_2_method_2_code 82 = .ok (.iconst 1, 1) := by decide +kernel
theorem d_B_allows_83 : decode prog_2_method_2_code 83 = .ok (.goto 4, 3) := by decide +kernel
theorem d_B_allows_86 : decode prog_2_method_2_code 86 = .ok (.iconst 0, 1) := by decide +kernel
theorem d_B_allows_87 : decode prog_2_method_2_code 87 = .ok (.ireturn, 1) := by decide +kernel
theorem d_B_allows_88 : decode prog_2_method_2_code 88 = .ok (.iload 4, 2) := by decide +kernel
theorem d_B_allows_90 : decode prog_2_method_2_code 90 = .ok (.iconst (-1), 1) := by decide +kernel
theorem d_B_allows_91 : decode prog_2_method_2_code 91 = .ok (.if_icmp .eq 25, 3) := by decide +kernel
theorem d_B_allows_94 : decode prog_2_method_2_code 94 = .ok (.aload_n 0, 1) := by decide +kernel
theorem d_B_allows_95 : decode prog_2_method_2_code 95 = .ok (.getfield 28, 3) := by decide +kernel
theorem d_B_allows_98 : decode prog_2_method_2_code 98 = .ok (.ifCond .ne 18, 3) := by decide +kernel
theorem d_B_allows_101 : decode prog_2_method_2_code 101 = .ok (.iload_n 3, 1) := by decide +kernel
theorem d_B_allows_102 : decode prog_2_method_2_code 102 = .ok (.aload_n 0, 1) := by decide +kernel
theorem d_B_allows_103 : decode prog_2_method_2_code 103 = .ok (.getfield 18, 3) := by decide +kernel
theorem d_B_allows_106 : decode prog_2_method_2_code 106 = .ok (.iload 4, 2) := by decide +kernel
theorem d_B_allows_108 : decode prog_2_method_2_code 108 = .ok (.iaload, 1) := by decide +kernel
theorem d_B_allows_109 : decode prog_2_method_2_code 109 = .ok (.if_icmp .gt 7, 3) := by decide +kernel
theorem d_B_allows_112 : decode prog_2_method_2_code 112 = .ok (.iconst 1, 1) := by decide +kernel
theorem d_B_allows_113 : decode prog_2_method_2_code 113 = .ok (.goto 4, 3) := by decide +kernel
theorem d_B_allows_116 : decode prog_2_method_2_code 116 = .ok (.iconst 0, 1) := by decide +kernel
theorem d_B_allows_117 : decode prog_2_method_2_code 117 = .ok (.ireturn, 1) := by decide +kernel
theorem d_B_allows_118 : decode prog_2_method_2_code 118 = .ok (.iload 4, 2) := by decide +kernel
theorem d_B_allows_120 : decode prog_2_method_2_code 120 = .ok (.iconst (-1), 1) := by decide +kernel
theorem d_B_allows_121 : decode prog_2_method_2_code 121 = .ok (.if_icmp .eq 7, 3) := by decide +kernel
theorem d_B_allows_124 : decode prog_2_method_2_code 124 = .ok (.iconst 1, 1) := by decide +kernel
theorem d_B_allows_125 : decode prog_2_method_2_code 125 = .ok (.goto 4, 3) := by decide +kernel
theorem d_B_allows_128 : decode prog_2_method_2_code 128 = .ok (.iconst 0, 1) := by decide +kernel
theorem d_B_allows_129 : decode prog_2_method_2_code 129 = .ok (.ireturn, 1) := by decide +kernel
theorem d_B_allows_130 : decode prog_2_method_2_code 130 = .ok (.aload_n 0, 1) := by decide +kernel
theorem d_B_allows_131 : decode prog_2_method_2_code 131 = .ok (.invokevirtual 39, 3) := by decide +kernel
theorem d_B_allows_134 : decode prog_2_method_2_code 134 = .ok (.iload_n 3, 1) := by decide +kernel
theorem d_B_allows_135 : decode prog_2_method_2_code 135 = .ok (.if_icmp .eq 7, 3) := by decide +kernel
theorem d_B_allows_138 : decode prog_2_method_2_code 138 = .ok (.iconst 1, 1) := by decide +kernel
theorem d_B_allows_139 : decode prog_2_method_2_code 139 = .ok (.goto 4, 3) := by decide +kernel
theorem d_B_allows_142 : decode prog_2_method_2_code 142 = .ok (.iconst 0, 1) := by decide +kernel
theorem d_B_allows_143 : decode prog_2_method_2_code 143 = .ok (.ireturn, 1) := by decide +kernel
theorem d_B_allows_144 : decode prog_2_method_2_code 144 = .ok (.iconst 1, 1) := by decide +kernel
theorem d_B_allows_145 : decode prog_2_method_2_code 145 = .ok (.ireturn, 1) := by decide +kernel
theorem d_B_placeOf_0 : decode prog_2_method_4_code 0 = .ok (.iconst 0, 1) := by decide +kernel
theorem d_B_placeOf_1 : decode prog_2_method_4_code 1 = .ok (.istore_n 2, 1) := by decide +kernel
theorem d_B_placeOf_2 : decode prog_2_method_4_code 2 = .ok (.iload_n 2, 1) := by decide +kernel
theorem d_B_placeOf_3 : decode prog_2_method_4_code 3 = .ok (.aload_n 0, 1) := by decide +kernel
theorem d_B_placeOf_4 : decode prog_2_method_4_code 4 = .ok (.getfield 25, 3) := by decide +kernel
theorem d_B_placeOf_7 : decode prog_2_method_4_code 7 = .ok (.if_icmp .ge 21, 3) := by decide +kernel
theorem d_B_placeOf_10 : decode prog_2_method_4_code 10 = .ok (.aload_n 0, 1) := by decide +kernel
theorem d_B_placeOf_11 : decode prog_2_method_4_code 11 = .ok (.getfield 9, 3) := by decide +kernel
theorem d_B_placeOf_14 : decode prog_2_method_4_code 14 = .ok (.iload_n 2, 1) := by decide +kernel
theorem d_B_placeOf_15 : decode prog_2_method_4_code 15 = .ok (.iaload, 1) := by decide +kernel
theorem d_B_placeOf_16 : decode prog_2_method_4_code 16 = .ok (.iload_n 1, 1) := by decide +kernel
theorem d_B_placeOf_17 : decode prog_2_method_4_code 17 = .ok (.if_icmp .ne 5, 3) := by decide +kernel
theorem d_B_placeOf_20 : decode prog_2_method_4_code 20 = .ok (.iload_n 2, 1) := by decide +kernel
theorem d_B_placeOf_21 : decode prog_2_method_4_code 21 = .ok (.ireturn, 1) := by decide +kernel
theorem d_B_placeOf_22 : decode prog_2_method_4_code 22 = .ok (.iinc 2 1, 3) := by decide +kernel
theorem d_B_placeOf_25 : decode prog_2_method_4_code 25 = .ok (.goto (-23), 3) := by decide +kernel
theorem d_B_placeOf_28 : decode prog_2_method_4_code 28 = .ok (.iconst (-1), 1) := by decide +kernel
theorem d_B_placeOf_29 : decode prog_2_method_4_code 29 = .ok (.ireturn, 1) := by decide +kernel
theorem d_B_haltValue_0 : decode prog_2_method_11_code 0 = .ok (.aload_n 0, 1) := by decide +kernel
theorem d_B_haltValue_1 : decode prog_2_method_11_code 1 = .ok (.getfield 28, 3) := by decide +kernel
theorem d_B_haltValue_4 : decode prog_2_method_11_code 4 = .ok (.ifCond .eq 7, 3) := by decide +kernel
theorem d_B_haltValue_7 : decode prog_2_method_11_code 7 = .ok (.iconst 1, 1) := by decide +kernel
theorem d_B_haltValue_8 : decode prog_2_method_11_code 8 = .ok (.goto 4, 3) := by decide +kernel
theorem d_B_haltValue_11 : decode prog_2_method_11_code 11 = .ok (.iconst 0, 1) := by decide +kernel
theorem d_B_haltValue_12 : decode prog_2_method_11_code 12 = .ok (.ireturn, 1) := by decide +kernel
theorem d_E_init_0 : decode prog_3_method_1_code 0 = .ok (.aload_n 0, 1) := by decide +kernel
theorem d_E_init_1 : decode prog_3_method_1_code 1 = .ok (.invokespecial 1, 3) := by decide +kernel
theorem d_E_init_4 : decode prog_3_method_1_code 4 = .ok (.aload_n 0, 1) := by decide +kernel
theorem d_E_init_5 : decode prog_3_method_1_code 5 = .ok (.iload_n 1, 1) := by decide +kernel
theorem d_E_init_6 : decode prog_3_method_1_code 6 = .ok (.putfield 7, 3) := by decide +kernel
theorem d_E_init_9 : decode prog_3_method_1_code 9 = .ok (.aload_n 0, 1) := by decide +kernel
theorem d_E_init_10 : decode prog_3_method_1_code 10 = .ok (.iload_n 2, 1) := by decide +kernel
theorem d_E_init_11 : decode prog_3_method_1_code 11 = .ok (.putfield 13, 3) := by decide +kernel
theorem d_E_init_14 : decode prog_3_method_1_code 14 = .ok (.aload_n 0, 1) := by decide +kernel
theorem d_E_init_15 : decode prog_3_method_1_code 15 = .ok (.iload_n 3, 1) := by decide +kernel
theorem d_E_init_16 : decode prog_3_method_1_code 16 = .ok (.putfield 16, 3) := by decide +kernel
theorem d_E_init_19 : decode prog_3_method_1_code 19 = .ok (.aload_n 0, 1) := by decide +kernel
theorem d_E_init_20 : decode prog_3_method_1_code 20 = .ok (.iload 4, 2) := by decide +kernel
theorem d_E_init_22 : decode prog_3_method_1_code 22 = .ok (.putfield 19, 3) := by decide +kernel
theorem d_E_init_25 : decode prog_3_method_1_code 25 = .ok (.aload_n 0, 1) := by decide +kernel
theorem d_E_init_26 : decode prog_3_method_1_code 26 = .ok (.iload 5, 2) := by decide +kernel
theorem d_E_init_28 : decode prog_3_method_1_code 28 = .ok (.putfield 22, 3) := by decide +kernel
theorem d_E_init_31 : decode prog_3_method_1_code 31 = .ok (.aload_n 0, 1) := by decide +kernel
theorem d_E_init_32 : decode prog_3_method_1_code 32 = .ok (.iload 6, 2) := by decide +kernel
theorem d_E_init_34 : decode prog_3_method_1_code 34 = .ok (.putfield 25, 3) := by decide +kernel
theorem d_E_init_37 : decode prog_3_method_1_code 37 = .ok (.aload_n 0, 1) := by decide +kernel
theorem d_E_init_38 : decode prog_3_method_1_code 38 = .ok (.iload 7, 2) := by decide +kernel
theorem d_E_init_40 : decode prog_3_method_1_code 40 = .ok (.putfield 28, 3) := by decide +kernel
theorem d_E_init_43 : decode prog_3_method_1_code 43 = .ok (.return_, 1) := by decide +kernel
theorem d_B_apply_0 : decode prog_2_method_3_code 0 = .ok (.aload_n 0, 1) := by decide +kernel
theorem d_B_apply_1 : decode prog_2_method_3_code 1 = .ok (.dup, 1) := by decide +kernel
theorem d_B_apply_2 : decode prog_2_method_3_code 2 = .ok (.getfield 32, 3) := by decide +kernel
theorem d_B_apply_5 : decode prog_2_method_3_code 5 = .ok (.iconst 1, 1) := by decide +kernel
theorem d_B_apply_6 : decode prog_2_method_3_code 6 = .ok (.iadd, 1) := by decide +kernel
theorem d_B_apply_7 : decode prog_2_method_3_code 7 = .ok (.putfield 32, 3) := by decide +kernel
theorem d_B_apply_10 : decode prog_2_method_3_code 10 = .ok (.aload_n 1, 1) := by decide +kernel
theorem d_B_apply_11 : decode prog_2_method_3_code 11 = .ok (.getfield 43, 3) := by decide +kernel
theorem d_B_apply_14 : decode prog_2_method_3_code 14 = .ok (.lookupswitch 75 #[(0, 34), (4, 42), (5, 62)], 34) := by decide +kernel
theorem d_B_apply_48 : decode prog_2_method_3_code 48 = .ok (.aload_n 0, 1) := by decide +kernel
theorem d_B_apply_49 : decode prog_2_method_3_code 49 = .ok (.aload_n 1, 1) := by decide +kernel
theorem d_B_apply_50 : decode prog_2_method_3_code 50 = .ok (.invokevirtual 48, 3) := by decide +kernel
theorem d_B_apply_53 : decode prog_2_method_3_code 53 = .ok (.goto 49, 3) := by decide +kernel
theorem d_B_apply_56 : decode prog_2_method_3_code 56 = .ok (.aload_n 0, 1) := by decide +kernel
theorem d_B_apply_57 : decode prog_2_method_3_code 57 = .ok (.aload_n 1, 1) := by decide +kernel
theorem d_B_apply_58 : decode prog_2_method_3_code 58 = .ok (.getfield 52, 3) := by decide +kernel
theorem d_B_apply_61 : decode prog_2_method_3_code 61 = .ok (.iconst 1, 1) := by decide +kernel
theorem d_B_apply_62 : decode prog_2_method_3_code 62 = .ok (.if_icmp .ne 7, 3) := by decide +kernel
theorem d_B_apply_65 : decode prog_2_method_3_code 65 = .ok (.iconst 1, 1) := by decide +kernel
theorem d_B_apply_66 : decode prog_2_method_3_code 66 = .ok (.goto 4, 3) := by decide +kernel
theorem d_B_apply_69 : decode prog_2_method_3_code 69 = .ok (.iconst 0, 1) := by decide +kernel
theorem d_B_apply_70 : decode prog_2_method_3_code 70 = .ok (.putfield 28, 3) := by decide +kernel
theorem d_B_apply_73 : decode prog_2_method_3_code 73 = .ok (.goto 29, 3) := by decide +kernel
theorem d_B_apply_76 : decode prog_2_method_3_code 76 = .ok (.aload_n 0, 1) := by decide +kernel
theorem d_B_apply_77 : decode prog_2_method_3_code 77 = .ok (.iconst 0, 1) := by decide +kernel
theorem d_B_apply_78 : decode prog_2_method_3_code 78 = .ok (.putfield 21, 3) := by decide +kernel
theorem d_B_apply_81 : decode prog_2_method_3_code 81 = .ok (.aload_n 0, 1) := by decide +kernel
theorem d_B_apply_82 : decode prog_2_method_3_code 82 = .ok (.iconst 0, 1) := by decide +kernel
theorem d_B_apply_83 : decode prog_2_method_3_code 83 = .ok (.putfield 25, 3) := by decide +kernel
theorem d_B_apply_86 : decode prog_2_method_3_code 86 = .ok (.goto 16, 3) := by decide +kernel
theorem d_B_apply_89 : decode prog_2_method_3_code 89 = .ok (.aload_n 0, 1) := by decide +kernel
theorem d_B_apply_90 : decode prog_2_method_3_code 90 = .ok (.aload_n 0, 1) := by decide +kernel
theorem d_B_apply_91 : decode prog_2_method_3_code 91 = .ok (.aload_n 1, 1) := by decide +kernel
theorem d_B_apply_92 : decode prog_2_method_3_code 92 = .ok (.getfield 55, 3) := by decide +kernel
theorem d_B_apply_95 : decode prog_2_method_3_code 95 = .ok (.invokevirtual 35, 3) := by decide +kernel
theorem d_B_apply_98 : decode prog_2_method_3_code 98 = .ok (.aload_n 1, 1) := by decide +kernel
theorem d_B_apply_99 : decode prog_2_method_3_code 99 = .ok (.invokevirtual 58, 3) := by decide +kernel
theorem d_B_apply_102 : decode prog_2_method_3_code 102 = .ok (.return_, 1) := by decide +kernel
theorem d_B_insert_0 : decode prog_2_method_5_code 0 = .ok (.aload_n 0, 1) := by decide +kernel
theorem d_B_insert_1 : decode prog_2_method_5_code 1 = .ok (.getfield 25, 3) := by decide +kernel
theorem d_B_insert_4 : decode prog_2_method_5_code 4 = .ok (.bipush 24, 2) := by decide +kernel
theorem d_B_insert_6 : decode prog_2_method_5_code 6 = .ok (.if_icmp .lt 4, 3) := by decide +kernel
theorem d_B_insert_9 : decode prog_2_method_5_code 9 = .ok (.return_, 1) := by decide +kernel
theorem d_B_insert_10 : decode prog_2_method_5_code 10 = .ok (.aload_n 1, 1) := by decide +kernel
theorem d_B_insert_11 : decode prog_2_method_5_code 11 = .ok (.getfield 62, 3) := by decide +kernel
theorem d_B_insert_14 : decode prog_2_method_5_code 14 = .ok (.ifCond .ne 7, 3) := by decide +kernel
theorem d_B_insert_17 : decode prog_2_method_5_code 17 = .ok (.iconst 1, 1) := by decide +kernel
theorem d_B_insert_18 : decode prog_2_method_5_code 18 = .ok (.goto 4, 3) := by decide +kernel
theorem d_B_insert_21 : decode prog_2_method_5_code 21 = .ok (.iconst 0, 1) := by decide +kernel
theorem d_B_insert_22 : decode prog_2_method_5_code 22 = .ok (.istore_n 2, 1) := by decide +kernel
theorem d_B_insert_23 : decode prog_2_method_5_code 23 = .ok (.aload_n 0, 1) := by decide +kernel
theorem d_B_insert_24 : decode prog_2_method_5_code 24 = .ok (.aload_n 1, 1) := by decide +kernel
theorem d_B_insert_25 : decode prog_2_method_5_code 25 = .ok (.getfield 62, 3) := by decide +kernel
theorem d_B_insert_28 : decode prog_2_method_5_code 28 = .ok (.invokevirtual 65, 3) := by decide +kernel
theorem d_B_insert_31 : decode prog_2_method_5_code 31 = .ok (.istore_n 3, 1) := by decide +kernel
theorem d_B_insert_32 : decode prog_2_method_5_code 32 = .ok (.aload_n 0, 1) := by decide +kernel
theorem d_B_insert_33 : decode prog_2_method_5_code 33 = .ok (.aload_n 1, 1) := by decide +kernel
theorem d_B_insert_34 : decode prog_2_method_5_code 34 = .ok (.getfield 62, 3) := by decide +kernel
theorem d_B_insert_37 : decode prog_2_method_5_code 37 = .ok (.invokevirtual 68, 3) := by decide +kernel
theorem d_B_insert_40 : decode prog_2_method_5_code 40 = .ok (.istore 4, 2) := by decide +kernel
theorem d_B_insert_42 : decode prog_2_method_5_code 42 = .ok (.iload_n 3, 1) := by decide +kernel
theorem d_B_insert_43 : decode prog_2_method_5_code 43 = .ok (.iload 4, 2) := by decide +kernel
theorem d_B_insert_45 : decode prog_2_method_5_code 45 = .ok (.if_icmp .ge 42, 3) := by decide +kernel
theorem d_B_insert_48 : decode prog_2_method_5_code 48 = .ok (.iload_n 2, 1) := by decide +kernel
theorem d_B_insert_49 : decode prog_2_method_5_code 49 = .ok (.ifCond .eq 19, 3) := by decide +kernel
theorem d_B_insert_52 : decode prog_2_method_5_code 52 = .ok (.aload_n 0, 1) := by decide +kernel
theorem d_B_insert_53 : decode prog_2_method_5_code 53 = .ok (.getfield 15, 3) := by decide +kernel
theorem d_B_insert_56 : decode prog_2_method_5_code 56 = .ok (.iload_n 3, 1) := by decide +kernel
theorem d_B_insert_57 : decode prog_2_method_5_code 57 = .ok (.iaload, 1) := by decide +kernel
theorem d_B_insert_58 : decode prog_2_method_5_code 58 = .ok (.aload_n 1, 1) := by decide +kernel
theorem d_B_insert_59 : decode prog_2_method_5_code 59 = .ok (.getfield 71, 3) := by decide +kernel
theorem d_B_insert_62 : decode prog_2_method_5_code 62 = .ok (.if_icmp .lt 25, 3) := by decide +kernel
theorem d_B_insert_65 : decode prog_2_method_5_code 65 = .ok (.goto 16, 3) := by decide +kernel
theorem d_B_insert_68 : decode prog_2_method_5_code 68 = .ok (.aload_n 0, 1) := by decide +kernel
theorem d_B_insert_69 : decode prog_2_method_5_code 69 = .ok (.getfield 15, 3) := by decide +kernel
theorem d_B_insert_72 : decode prog_2_method_5_code 72 = .ok (.iload_n 3, 1) := by decide +kernel
theorem d_B_insert_73 : decode prog_2_method_5_code 73 = .ok (.iaload, 1) := by decide +kernel
theorem d_B_insert_74 : decode prog_2_method_5_code 74 = .ok (.aload_n 1, 1) := by decide +kernel
theorem d_B_insert_75 : decode prog_2_method_5_code 75 = .ok (.getfield 71, 3) := by decide +kernel
theorem d_B_insert_78 : decode prog_2_method_5_code 78 = .ok (.if_icmp .gt 9, 3) := by decide +kernel
theorem d_B_insert_81 : decode prog_2_method_5_code 81 = .ok (.iinc 3 1, 3) := by decide +kernel
theorem d_B_insert_84 : decode prog_2_method_5_code 84 = .ok (.goto (-42), 3) := by decide +kernel
theorem d_B_insert_87 : decode prog_2_method_5_code 87 = .ok (.aload_n 0, 1) := by decide +kernel
theorem d_B_insert_88 : decode prog_2_method_5_code 88 = .ok (.getfield 9, 3) := by decide +kernel
theorem d_B_insert_91 : decode prog_2_method_5_code 91 = .ok (.iload_n 3, 1) := by decide +kernel
theorem d_B_insert_92 : decode prog_2_method_5_code 92 = .ok (.aload_n 0, 1) := by decide +kernel
theorem d_B_insert_93 : decode prog_2_method_5_code 93 = .ok (.getfield 9, 3) := by decide +kernel
theorem d_B_insert_96 : decode prog_2_method_5_code 96 = .ok (.iload_n 3, 1) := by decide +kernel
theorem d_B_insert_97 : decode prog_2_method_5_code 97 = .ok (.iconst 1, 1) := by decide +kernel
theorem d_B_insert_98 : decode prog_2_method_5_code 98 = .ok (.iadd, 1) := by decide +kernel
theorem d_B_insert_99 : decode prog_2_method_5_code 99 = .ok (.aload_n 0, 1) := by decide +kernel
theorem d_B_insert_100 : decode prog_2_method_5_code 100 = .ok (.getfield 25, 3) := by decide +kernel
theorem d_B_insert_103 : decode prog_2_method_5_code 103 = .ok (.iload_n 3, 1) := by decide +kernel
theorem d_B_insert_104 : decode prog_2_method_5_code 104 = .ok (.isub, 1) := by decide +kernel
theorem d_B_insert_105 : decode prog_2_method_5_code 105 = .ok (.invokestatic 74, 3) := by decide +kernel
theorem d_B_insert_108 : decode prog_2_method_5_code 108 = .ok (.aload_n 0, 1) := by decide +kernel
theorem d_B_insert_109 : decode prog_2_method_5_code 109 = .ok (.getfield 15, 3) := by decide +kernel
theorem d_B_insert_112 : decode prog_2_method_5_code 112 = .ok (.iload_n 3, 1) := by decide +kernel
theorem d_B_insert_113 : decode prog_2_method_5_code 113 = .ok (.aload_n 0, 1) := by decide +kernel
theorem d_B_insert_114 : decode prog_2_method_5_code 114 = .ok (.getfield 15, 3) := by decide +kernel
theorem d_B_insert_117 : decode prog_2_method_5_code 117 = .ok (.iload_n 3, 1) := by decide +kernel
theorem d_B_insert_118 : decode prog_2_method_5_code 118 = .ok (.iconst 1, 1) := by decide +kernel
theorem d_B_insert_119 : decode prog_2_method_5_code 119 = .ok (.iadd, 1) := by decide +kernel
theorem d_B_insert_120 : decode prog_2_method_5_code 120 = .ok (.aload_n 0, 1) := by decide +kernel
theorem d_B_insert_121 : decode prog_2_method_5_code 121 = .ok (.getfield 25, 3) := by decide +kernel
theorem d_B_insert_124 : decode prog_2_method_5_code 124 = .ok (.iload_n 3, 1) := by decide +kernel
theorem d_B_insert_125 : decode prog_2_method_5_code 125 = .ok (.isub, 1) := by decide +kernel
theorem d_B_insert_126 : decode prog_2_method_5_code 126 = .ok (.invokestatic 74, 3) := by decide +kernel
theorem d_B_insert_129 : decode prog_2_method_5_code 129 = .ok (.aload_n 0, 1) := by decide +kernel
theorem d_B_insert_130 : decode prog_2_method_5_code 130 = .ok (.getfield 18, 3) := by decide +kernel
theorem d_B_insert_133 : decode prog_2_method_5_code 133 = .ok (.iload_n 3, 1) := by decide +kernel
theorem d_B_insert_134 : decode prog_2_method_5_code 134 = .ok (.aload_n 0, 1) := by decide +kernel
theorem d_B_insert_135 : decode prog_2_method_5_code 135 = .ok (.getfield 18, 3) := by decide +kernel
theorem d_B_insert_138 : decode prog_2_method_5_code 138 = .ok (.iload_n 3, 1) := by decide +kernel
theorem d_B_insert_139 : decode prog_2_method_5_code 139 = .ok (.iconst 1, 1) := by decide +kernel
theorem d_B_insert_140 : decode prog_2_method_5_code 140 = .ok (.iadd, 1) := by decide +kernel
theorem d_B_insert_141 : decode prog_2_method_5_code 141 = .ok (.aload_n 0, 1) := by decide +kernel
theorem d_B_insert_142 : decode prog_2_method_5_code 142 = .ok (.getfield 25, 3) := by decide +kernel
theorem d_B_insert_145 : decode prog_2_method_5_code 145 = .ok (.iload_n 3, 1) := by decide +kernel
theorem d_B_insert_146 : decode prog_2_method_5_code 146 = .ok (.isub, 1) := by decide +kernel
theorem d_B_insert_147 : decode prog_2_method_5_code 147 = .ok (.invokestatic 74, 3) := by decide +kernel
theorem d_B_insert_150 : decode prog_2_method_5_code 150 = .ok (.aload_n 0, 1) := by decide +kernel
theorem d_B_insert_151 : decode prog_2_method_5_code 151 = .ok (.getfield 9, 3) := by decide +kernel
theorem d_B_insert_154 : decode prog_2_method_5_code 154 = .ok (.iload_n 3, 1) := by decide +kernel
theorem d_B_insert_155 : decode prog_2_method_5_code 155 = .ok (.aload_n 1, 1) := by decide +kernel
theorem d_B_insert_156 : decode prog_2_method_5_code 156 = .ok (.getfield 55, 3) := by decide +kernel
theorem d_B_insert_159 : decode prog_2_method_5_code 159 = .ok (.iastore, 1) := by decide +kernel
theorem d_B_insert_160 : decode prog_2_method_5_code 160 = .ok (.aload_n 0, 1) := by decide +kernel
theorem d_B_insert_161 : decode prog_2_method_5_code 161 = .ok (.getfield 15, 3) := by decide +kernel
theorem d_B_insert_164 : decode prog_2_method_5_code 164 = .ok (.iload_n 3, 1) := by decide +kernel
theorem d_B_insert_165 : decode prog_2_method_5_code 165 = .ok (.aload_n 1, 1) := by decide +kernel
theorem d_B_insert_166 : decode prog_2_method_5_code 166 = .ok (.getfield 71, 3) := by decide +kernel
theorem d_B_insert_169 : decode prog_2_method_5_code 169 = .ok (.iastore, 1) := by decide +kernel
theorem d_B_insert_170 : decode prog_2_method_5_code 170 = .ok (.aload_n 0, 1) := by decide +kernel
theorem d_B_insert_171 : decode prog_2_method_5_code 171 = .ok (.getfield 18, 3) := by decide +kernel
theorem d_B_insert_174 : decode prog_2_method_5_code 174 = .ok (.iload_n 3, 1) := by decide +kernel
theorem d_B_insert_175 : decode prog_2_method_5_code 175 = .ok (.aload_n 1, 1) := by decide +kernel
theorem d_B_insert_176 : decode prog_2_method_5_code 176 = .ok (.getfield 52, 3) := by decide +kernel
theorem d_B_insert_179 : decode prog_2_method_5_code 179 = .ok (.iastore, 1) := by decide +kernel
theorem d_B_insert_180 : decode prog_2_method_5_code 180 = .ok (.aload_n 0, 1) := by decide +kernel
theorem d_B_insert_181 : decode prog_2_method_5_code 181 = .ok (.dup, 1) := by decide +kernel
theorem d_B_insert_182 : decode prog_2_method_5_code 182 = .ok (.getfield 25, 3) := by decide +kernel
theorem d_B_insert_185 : decode prog_2_method_5_code 185 = .ok (.iconst 1, 1) := by decide +kernel
theorem d_B_insert_186 : decode prog_2_method_5_code 186 = .ok (.iadd, 1) := by decide +kernel
theorem d_B_insert_187 : decode prog_2_method_5_code 187 = .ok (.putfield 25, 3) := by decide +kernel
theorem d_B_insert_190 : decode prog_2_method_5_code 190 = .ok (.iload_n 2, 1) := by decide +kernel
theorem d_B_insert_191 : decode prog_2_method_5_code 191 = .ok (.ifCond .eq 13, 3) := by decide +kernel
theorem d_B_insert_194 : decode prog_2_method_5_code 194 = .ok (.aload_n 0, 1) := by decide +kernel
theorem d_B_insert_195 : decode prog_2_method_5_code 195 = .ok (.dup, 1) := by decide +kernel
theorem d_B_insert_196 : decode prog_2_method_5_code 196 = .ok (.getfield 21, 3) := by decide +kernel
theorem d_B_insert_199 : decode prog_2_method_5_code 199 = .ok (.iconst 1, 1) := by decide +kernel
theorem d_B_insert_200 : decode prog_2_method_5_code 200 = .ok (.iadd, 1) := by decide +kernel
theorem d_B_insert_201 : decode prog_2_method_5_code 201 = .ok (.putfield 21, 3) := by decide +kernel
theorem d_B_insert_204 : decode prog_2_method_5_code 204 = .ok (.return_, 1) := by decide +kernel
theorem d_B_startOf_0 : decode prog_2_method_9_code 0 = .ok (.iload_n 1, 1) := by decide +kernel
theorem d_B_startOf_1 : decode prog_2_method_9_code 1 = .ok (.ifCond .ne 7, 3) := by decide +kernel
theorem d_B_startOf_4 : decode prog_2_method_9_code 4 = .ok (.iconst 0, 1) := by decide +kernel
theorem d_B_startOf_5 : decode prog_2_method_9_code 5 = .ok (.goto 7, 3) := by decide +kernel
theorem d_B_startOf_8 : decode prog_2_method_9_code 8 = .ok (.aload_n 0, 1) := by decide +kernel
theorem d_B_startOf_9 : decode prog_2_method_9_code 9 = .ok (.getfield 21, 3) := by decide +kernel
theorem d_B_startOf_12 : decode prog_2_method_9_code 12 = .ok (.ireturn, 1) := by decide +kernel
theorem d_B_endOf_0 : decode prog_2_method_10_code 0 = .ok (.iload_n 1, 1) := by decide +kernel
theorem d_B_endOf_1 : decode prog_2_method_10_code 1 = .ok (.ifCond .ne 10, 3) := by decide +kernel
theorem d_B_endOf_4 : decode prog_2_method_10_code 4 = .ok (.aload_n 0, 1) := by decide +kernel
theorem d_B_endOf_5 : decode prog_2_method_10_code 5 = .ok (.getfield 21, 3) := by decide +kernel
theorem d_B_endOf_8 : decode prog_2_method_10_code 8 = .ok (.goto 7, 3) := by decide +kernel
theorem d_B_endOf_11 : decode prog_2_method_10_code 11 = .ok (.aload_n 0, 1) := by decide +kernel
theorem d_B_endOf_12 : decode prog_2_method_10_code 12 = .ok (.getfield 25, 3) := by decide +kernel
theorem d_B_endOf_15 : decode prog_2_method_10_code 15 = .ok (.ireturn, 1) := by decide +kernel
theorem d_B_shrink_0 : decode prog_2_method_6_code 0 = .ok (.iload_n 1, 1) := by decide +kernel
theorem d_B_shrink_1 : decode prog_2_method_6_code 1 = .ok (.iconst (-1), 1) := by decide +kernel
theorem d_B_shrink_2 : decode prog_2_method_6_code 2 = .ok (.if_icmp .ne 4, 3) := by decide +kernel
theorem d_B_shrink_5 : decode prog_2_method_6_code 5 = .ok (.return_, 1) := by decide +kernel
theorem d_B_shrink_6 : decode prog_2_method_6_code 6 = .ok (.aload_n 0, 1) := by decide +kernel
theorem d_B_shrink_7 : decode prog_2_method_6_code 7 = .ok (.getfield 18, 3) := by decide +kernel
theorem d_B_shrink_10 : decode prog_2_method_6_code 10 = .ok (.iload_n 1, 1) := by decide +kernel
theorem d_B_shrink_11 : decode prog_2_method_6_code 11 = .ok (.iaload, 1) := by decide +kernel
theorem d_B_shrink_12 : decode prog_2_method_6_code 12 = .ok (.aload_n 2, 1) := by decide +kernel
theorem d_B_shrink_13 : decode prog_2_method_6_code 13 = .ok (.invokestatic 80, 3) := by decide +kernel
theorem d_B_shrink_16 : decode prog_2_method_6_code 16 = .ok (.istore_n 3, 1) := by decide +kernel
theorem d_B_shrink_17 : decode prog_2_method_6_code 17 = .ok (.iload_n 3, 1) := by decide +kernel
theorem d_B_shrink_18 : decode prog_2_method_6_code 18 = .ok (.ifCond .le 11, 3) := by decide +kernel
theorem d_B_shrink_21 : decode prog_2_method_6_code 21 = .ok (.aload_n 0, 1) := by decide +kernel
theorem d_B_shrink_22 : decode prog_2_method_6_code 22 = .ok (.getfield 18, 3) := by decide +kernel
theorem d_B_shrink_25 : decode prog_2_method_6_code 25 = .ok (.iload_n 1, 1) := by decide +kernel
theorem d_B_shrink_26 : decode prog_2_method_6_code 26 = .ok (.iload_n 3, 1) := by decide +kernel
theorem d_B_shrink_27 : decode prog_2_method_6_code 27 = .ok (.iastore, 1) := by decide +kernel
theorem d_B_shrink_28 : decode prog_2_method_6_code 28 = .ok (.return_, 1) := by decide +kernel
theorem d_B_shrink_29 : decode prog_2_method_6_code 29 = .ok (.aload_n 0, 1) := by decide +kernel
theorem d_B_shrink_30 : decode prog_2_method_6_code 30 = .ok (.dup, 1) := by decide +kernel
theorem d_B_shrink_31 : decode prog_2_method_6_code 31 = .ok (.getfield 25, 3) := by decide +kernel
theorem d_B_shrink_34 : decode prog_2_method_6_code 34 = .ok (.iconst 1, 1) := by decide +kernel
theorem d_B_shrink_35 : decode prog_2_method_6_code 35 = .ok (.isub, 1) := by decide +kernel
theorem d_B_shrink_36 : decode prog_2_method_6_code 36 = .ok (.putfield 25, 3) := by decide +kernel
theorem d_B_shrink_39 : decode prog_2_method_6_code 39 = .ok (.iload_n 1, 1) := by decide +kernel
theorem d_B_shrink_40 : decode prog_2_method_6_code 40 = .ok (.aload_n 0, 1) := by decide +kernel
theorem d_B_shrink_41 : decode prog_2_method_6_code 41 = .ok (.getfield 21, 3) := by decide +kernel
theorem d_B_shrink_44 : decode prog_2_method_6_code 44 = .ok (.if_icmp .ge 13, 3) := by decide +kernel
theorem d_B_shrink_47 : decode prog_2_method_6_code 47 = .ok (.aload_n 0, 1) := by decide +kernel
theorem d_B_shrink_48 : decode prog_2_method_6_code 48 = .ok (.dup, 1) := by decide +kernel
theorem d_B_shrink_49 : decode prog_2_method_6_code 49 = .ok (.getfield 21, 3) := by decide +kernel
theorem d_B_shrink_52 : decode prog_2_method_6_code 52 = .ok (.iconst 1, 1) := by decide +kernel
theorem d_B_shrink_53 : decode prog_2_method_6_code 53 = .ok (.isub, 1) := by decide +kernel
theorem d_B_shrink_54 : decode prog_2_method_6_code 54 = .ok (.putfield 21, 3) := by decide +kernel
theorem d_B_shrink_57 : decode prog_2_method_6_code 57 = .ok (.aload_n 0, 1) := by decide +kernel
theorem d_B_shrink_58 : decode prog_2_method_6_code 58 = .ok (.getfield 9, 3) := by decide +kernel
theorem d_B_shrink_61 : decode prog_2_method_6_code 61 = .ok (.iload_n 1, 1) := by decide +kernel
theorem d_B_shrink_62 : decode prog_2_method_6_code 62 = .ok (.iconst 1, 1) := by decide +kernel
theorem d_B_shrink_63 : decode prog_2_method_6_code 63 = .ok (.iadd, 1) := by decide +kernel
theorem d_B_shrink_64 : decode prog_2_method_6_code 64 = .ok (.aload_n 0, 1) := by decide +kernel
theorem d_B_shrink_65 : decode prog_2_method_6_code 65 = .ok (.getfield 9, 3) := by decide +kernel
theorem d_B_shrink_68 : decode prog_2_method_6_code 68 = .ok (.iload_n 1, 1) := by decide +kernel
theorem d_B_shrink_69 : decode prog_2_method_6_code 69 = .ok (.aload_n 0, 1) := by decide +kernel
theorem d_B_shrink_70 : decode prog_2_method_6_code 70 = .ok (.getfield 25, 3) := by decide +kernel
theorem d_B_shrink_73 : decode prog_2_method_6_code 73 = .ok (.iload_n 1, 1) := by decide +kernel
theorem d_B_shrink_74 : decode prog_2_method_6_code 74 = .ok (.isub, 1) := by decide +kernel
theorem d_B_shrink_75 : decode prog_2_method_6_code 75 = .ok (.invokestatic 74, 3) := by decide +kernel
theorem d_B_shrink_78 : decode prog_2_method_6_code 78 = .ok (.aload_n 0, 1) := by decide +kernel
theorem d_B_shrink_79 : decode prog_2_method_6_code 79 = .ok (.getfield 15, 3) := by decide +kernel
theorem d_B_shrink_82 : decode prog_2_method_6_code 82 = .ok (.iload_n 1, 1) := by decide +kernel
theorem d_B_shrink_83 : decode prog_2_method_6_code 83 = .ok (.iconst 1, 1) := by decide +kernel
theorem d_B_shrink_84 : decode prog_2_method_6_code 84 = .ok (.iadd, 1) := by decide +kernel
theorem d_B_shrink_85 : decode prog_2_method_6_code 85 = .ok (.aload_n 0, 1) := by decide +kernel
theorem d_B_shrink_86 : decode prog_2_method_6_code 86 = .ok (.getfield 15, 3) := by decide +kernel
theorem d_B_shrink_89 : decode prog_2_method_6_code 89 = .ok (.iload_n 1, 1) := by decide +kernel
theorem d_B_shrink_90 : decode prog_2_method_6_code 90 = .ok (.aload_n 0, 1) := by decide +kernel
theorem d_B_shrink_91 : decode prog_2_method_6_code 91 = .ok (.getfield 25, 3) := by decide +kernel
theorem d_B_shrink_94 : decode prog_2_method_6_code 94 = .ok (.iload_n 1, 1) := by decide +kernel
theorem d_B_shrink_95 : decode prog_2_method_6_code 95 = .ok (.isub, 1) := by decide +kernel
theorem d_B_shrink_96 : decode prog_2_method_6_code 96 = .ok (.invokestatic 74, 3) := by decide +kernel
theorem d_B_shrink_99 : decode prog_2_method_6_code 99 = .ok (.aload_n 0, 1) := by decide +kernel
theorem d_B_shrink_100 : decode prog_2_method_6_code 100 = .ok (.getfield 18, 3) := by decide +kernel
theorem d_B_shrink_103 : decode prog_2_method_6_code 103 = .ok (.iload_n 1, 1) := by decide +kernel
theorem d_B_shrink_104 : decode prog_2_method_6_code 104 = .ok (.iconst 1, 1) := by decide +kernel
theorem d_B_shrink_105 : decode prog_2_method_6_code 105 = .ok (.iadd, 1) := by decide +kernel
theorem d_B_shrink_106 : decode prog_2_method_6_code 106 = .ok (.aload_n 0, 1) := by decide +kernel
theorem d_B_shrink_107 : decode prog_2_method_6_code 107 = .ok (.getfield 18, 3) := by decide +kernel
theorem d_B_shrink_110 : decode prog_2_method_6_code 110 = .ok (.iload_n 1, 1) := by decide +kernel
theorem d_B_shrink_111 : decode prog_2_method_6_code 111 = .ok (.aload_n 0, 1) := by decide +kernel
theorem d_B_shrink_112 : decode prog_2_method_6_code 112 = .ok (.getfield 25, 3) := by decide +kernel
theorem d_B_shrink_115 : decode prog_2_method_6_code 115 = .ok (.iload_n 1, 1) := by decide +kernel
theorem d_B_shrink_116 : decode prog_2_method_6_code 116 = .ok (.isub, 1) := by decide +kernel
theorem d_B_shrink_117 : decode prog_2_method_6_code 117 = .ok (.invokestatic 74, 3) := by decide +kernel
theorem d_B_shrink_120 : decode prog_2_method_6_code 120 = .ok (.return_, 1) := by decide +kernel
theorem d_B_sizeLeft_0 : decode prog_2_method_7_code 0 = .ok (.aload_n 1, 1) := by decide +kernel
theorem d_B_sizeLeft_1 : decode prog_2_method_7_code 1 = .ok (.getfield 43, 3) := by decide +kernel
theorem d_B_sizeLeft_4 : decode prog_2_method_7_code 4 = .ok (.lookupswitch 40 #[(1, 28), (2, 33)], 28) := by decide +kernel
theorem d_B_sizeLeft_32 : decode prog_2_method_7_code 32 = .ok (.aload_n 1, 1) := by decide +kernel
theorem d_B_sizeLeft_33 : decode prog_2_method_7_code 33 = .ok (.getfield 52, 3) := by decide +kernel
theorem d_B_sizeLeft_36 : decode prog_2_method_7_code 36 = .ok (.ireturn, 1) := by decide +kernel
theorem d_B_sizeLeft_37 : decode prog_2_method_7_code 37 = .ok (.iload_n 0, 1) := by decide +kernel
theorem d_B_sizeLeft_38 : decode prog_2_method_7_code 38 = .ok (.aload_n 1, 1) := by decide +kernel
theorem d_B_sizeLeft_39 : decode prog_2_method_7_code 39 = .ok (.getfield 52, 3) := by decide +kernel
theorem d_B_sizeLeft_42 : decode prog_2_method_7_code 42 = .ok (.isub, 1) := by decide +kernel
theorem d_B_sizeLeft_43 : decode prog_2_method_7_code 43 = .ok (.ireturn, 1) := by decide +kernel
theorem d_B_sizeLeft_44 : decode prog_2_method_7_code 44 = .ok (.iconst 0, 1) := by decide +kernel
theorem d_B_sizeLeft_45 : decode prog_2_method_7_code 45 = .ok (.ireturn, 1) := by decide +kernel
theorem d_D_change_0 : decode prog_1_method_3_code 0 = .ok (.iload_n 1, 1) := by decide +kernel
theorem d_D_change_1 : decode prog_1_method_3_code 1 = .ok (.invokestatic 32, 3) := by decide +kernel
theorem d_D_change_4 : decode prog_1_method_3_code 4 = .ok (.ifCond .eq 17, 3) := by decide +kernel
theorem d_D_change_7 : decode prog_1_method_3_code 7 = .ok (.iload_n 2, 1) := by decide +kernel
theorem d_D_change_8 : decode prog_1_method_3_code 8 = .ok (.invokestatic 36, 3) := by decide +kernel
theorem d_D_change_11 : decode prog_1_method_3_code 11 = .ok (.ifCond .eq 10, 3) := by decide +kernel
theorem d_D_change_14 : decode prog_1_method_3_code 14 = .ok (.iload_n 3, 1) := by decide +kernel
theorem d_D_change_15 : decode prog_1_method_3_code 15 = .ok (.invokestatic 36, 3) := by decide +kernel
theorem d_D_change_18 : decode prog_1_method_3_code 18 = .ok (.ifCond .ne 6, 3) := by decide +kernel
theorem d_D_change_21 : decode prog_1_method_3_code 21 = .ok (.bipush (-2), 2) := by decide +kernel
theorem d_D_change_23 : decode prog_1_method_3_code 23 = .ok (.ireturn, 1) := by decide +kernel
theorem d_D_change_24 : decode prog_1_method_3_code 24 = .ok (.aload_n 0, 1) := by decide +kernel
theorem d_D_change_25 : decode prog_1_method_3_code 25 = .ok (.getfield 24, 3) := by decide +kernel
theorem d_D_change_28 : decode prog_1_method_3_code 28 = .ok (.iconst 1, 1) := by decide +kernel
theorem d_D_change_29 : decode prog_1_method_3_code 29 = .ok (.iload_n 1, 1) := by decide +kernel
theorem d_D_change_30 : decode prog_1_method_3_code 30 = .ok (.iload_n 2, 1) := by decide +kernel
theorem d_D_change_31 : decode prog_1_method_3_code 31 = .ok (.iconst 0, 1) := by decide +kernel
theorem d_D_change_32 : decode prog_1_method_3_code 32 = .ok (.iconst 0, 1) := by decide +kernel
theorem d_D_change_33 : decode prog_1_method_3_code 33 = .ok (.iload_n 3, 1) := by decide +kernel
theorem d_D_change_34 : decode prog_1_method_3_code 34 = .ok (.invokevirtual 44, 3) := by decide +kernel
theorem d_D_change_37 : decode prog_1_method_3_code 37 = .ok (.ireturn, 1) := by decide +kernel
theorem d_D_execute_0 : decode prog_1_method_4_code 0 = .ok (.iload_n 1, 1) := by decide +kernel
theorem d_D_execute_1 : decode prog_1_method_4_code 1 = .ok (.invokestatic 32, 3) := by decide +kernel
theorem d_D_execute_4 : decode prog_1_method_4_code 4 = .ok (.ifCond .eq 17, 3) := by decide +kernel
theorem d_D_execute_7 : decode prog_1_method_4_code 7 = .ok (.iload_n 2, 1) := by decide +kernel
theorem d_D_execute_8 : decode prog_1_method_4_code 8 = .ok (.invokestatic 36, 3) := by decide +kernel
theorem d_D_execute_11 : decode prog_1_method_4_code 11 = .ok (.ifCond .eq 10, 3) := by decide +kernel
theorem d_D_execute_14 : decode prog_1_method_4_code 14 = .ok (.iload_n 3, 1) := by decide +kernel
theorem d_D_execute_15 : decode prog_1_method_4_code 15 = .ok (.invokestatic 36, 3) := by decide +kernel
theorem d_D_execute_18 : decode prog_1_method_4_code 18 = .ok (.ifCond .ne 6, 3) := by decide +kernel
theorem d_D_execute_21 : decode prog_1_method_4_code 21 = .ok (.bipush (-2), 2) := by decide +kernel
theorem d_D_execute_23 : decode prog_1_method_4_code 23 = .ok (.ireturn, 1) := by decide +kernel
theorem d_D_execute_24 : decode prog_1_method_4_code 24 = .ok (.aload_n 0, 1) := by decide +kernel
theorem d_D_execute_25 : decode prog_1_method_4_code 25 = .ok (.getfield 24, 3) := by decide +kernel
theorem d_D_execute_28 : decode prog_1_method_4_code 28 = .ok (.iconst 2, 1) := by decide +kernel
theorem d_D_execute_29 : decode prog_1_method_4_code 29 = .ok (.iload_n 1, 1) := by decide +kernel
theorem d_D_execute_30 : decode prog_1_method_4_code 30 = .ok (.iload_n 2, 1) := by decide +kernel
theorem d_D_execute_31 : decode prog_1_method_4_code 31 = .ok (.iconst 0, 1) := by decide +kernel
theorem d_D_execute_32 : decode prog_1_method_4_code 32 = .ok (.iconst 0, 1) := by decide +kernel
theorem d_D_execute_33 : decode prog_1_method_4_code 33 = .ok (.iload_n 3, 1) := by decide +kernel
theorem d_D_execute_34 : decode prog_1_method_4_code 34 = .ok (.invokevirtual 44, 3) := by decide +kernel
theorem d_D_execute_37 : decode prog_1_method_4_code 37 = .ok (.ireturn, 1) := by decide +kernel
theorem d_D_cancel_0 : decode prog_1_method_5_code 0 = .ok (.iload_n 1, 1) := by decide +kernel
theorem d_D_cancel_1 : decode prog_1_method_5_code 1 = .ok (.invokestatic 32, 3) := by decide +kernel
theorem d_D_cancel_4 : decode prog_1_method_5_code 4 = .ok (.ifCond .eq 10, 3) := by decide +kernel
theorem d_D_cancel_7 : decode prog_1_method_5_code 7 = .ok (.iload_n 2, 1) := by decide +kernel
theorem d_D_cancel_8 : decode prog_1_method_5_code 8 = .ok (.invokestatic 36, 3) := by decide +kernel
theorem d_D_cancel_11 : decode prog_1_method_5_code 11 = .ok (.ifCond .ne 6, 3) := by decide +kernel
theorem d_D_cancel_14 : decode prog_1_method_5_code 14 = .ok (.bipush (-2), 2) := by decide +kernel
theorem d_D_cancel_16 : decode prog_1_method_5_code 16 = .ok (.ireturn, 1) := by decide +kernel
theorem d_D_cancel_17 : decode prog_1_method_5_code 17 = .ok (.aload_n 0, 1) := by decide +kernel
theorem d_D_cancel_18 : decode prog_1_method_5_code 18 = .ok (.getfield 24, 3) := by decide +kernel
theorem d_D_cancel_21 : decode prog_1_method_5_code 21 = .ok (.iconst 3, 1) := by decide +kernel
theorem d_D_cancel_22 : decode prog_1_method_5_code 22 = .ok (.iload_n 1, 1) := by decide +kernel
theorem d_D_cancel_23 : decode prog_1_method_5_code 23 = .ok (.iload_n 2, 1) := by decide +kernel
theorem d_D_cancel_24 : decode prog_1_method_5_code 24 = .ok (.iconst 0, 1) := by decide +kernel
theorem d_D_cancel_25 : decode prog_1_method_5_code 25 = .ok (.iconst 0, 1) := by decide +kernel
theorem d_D_cancel_26 : decode prog_1_method_5_code 26 = .ok (.iconst 0, 1) := by decide +kernel
theorem d_D_cancel_27 : decode prog_1_method_5_code 27 = .ok (.invokevirtual 44, 3) := by decide +kernel
theorem d_D_cancel_30 : decode prog_1_method_5_code 30 = .ok (.ireturn, 1) := by decide +kernel
theorem d_D_halt_0 : decode prog_1_method_6_code 0 = .ok (.iload_n 1, 1) := by decide +kernel
theorem d_D_halt_1 : decode prog_1_method_6_code 1 = .ok (.invokestatic 32, 3) := by decide +kernel
theorem d_D_halt_4 : decode prog_1_method_6_code 4 = .ok (.ifCond .ne 6, 3) := by decide +kernel
theorem d_D_halt_7 : decode prog_1_method_6_code 7 = .ok (.bipush (-2), 2) := by decide +kernel
theorem d_D_halt_9 : decode prog_1_method_6_code 9 = .ok (.ireturn, 1) := by decide +kernel
theorem d_D_halt_10 : decode prog_1_method_6_code 10 = .ok (.aload_n 0, 1) := by decide +kernel
theorem d_D_halt_11 : decode prog_1_method_6_code 11 = .ok (.getfield 24, 3) := by decide +kernel
theorem d_D_halt_14 : decode prog_1_method_6_code 14 = .ok (.iconst 4, 1) := by decide +kernel
theorem d_D_halt_15 : decode prog_1_method_6_code 15 = .ok (.iload_n 1, 1) := by decide +kernel
theorem d_D_halt_16 : decode prog_1_method_6_code 16 = .ok (.iconst 0, 1) := by decide +kernel
theorem d_D_halt_17 : decode prog_1_method_6_code 17 = .ok (.iconst 0, 1) := by decide +kernel
theorem d_D_halt_18 : decode prog_1_method_6_code 18 = .ok (.iconst 0, 1) := by decide +kernel
theorem d_D_halt_19 : decode prog_1_method_6_code 19 = .ok (.iload_n 2, 1) := by decide +kernel
theorem d_D_halt_20 : decode prog_1_method_6_code 20 = .ok (.ifCond .eq 7, 3) := by decide +kernel
theorem d_D_halt_23 : decode prog_1_method_6_code 23 = .ok (.iconst 1, 1) := by decide +kernel
theorem d_D_halt_24 : decode prog_1_method_6_code 24 = .ok (.goto 4, 3) := by decide +kernel
theorem d_D_halt_27 : decode prog_1_method_6_code 27 = .ok (.iconst 0, 1) := by decide +kernel
theorem d_D_halt_28 : decode prog_1_method_6_code 28 = .ok (.invokevirtual 44, 3) := by decide +kernel
theorem d_D_halt_31 : decode prog_1_method_6_code 31 = .ok (.ireturn, 1) := by decide +kernel
theorem d_D_clear_0 : decode prog_1_method_7_code 0 = .ok (.iload_n 1, 1) := by decide +kernel
theorem d_D_clear_1 : decode prog_1_method_7_code 1 = .ok (.invokestatic 32, 3) := by decide +kernel
theorem d_D_clear_4 : decode prog_1_method_7_code 4 = .ok (.ifCond .ne 6, 3) := by decide +kernel
theorem d_D_clear_7 : decode prog_1_method_7_code 7 = .ok (.bipush (-2), 2) := by decide +kernel
theorem d_D_clear_9 : decode prog_1_method_7_code 9 = .ok (.ireturn, 1) := by decide +kernel
theorem d_D_clear_10 : decode prog_1_method_7_code 10 = .ok (.aload_n 0, 1) := by decide +kernel
theorem d_D_clear_11 : decode prog_1_method_7_code 11 = .ok (.getfield 24, 3) := by decide +kernel
theorem d_D_clear_14 : decode prog_1_method_7_code 14 = .ok (.iconst 5, 1) := by decide +kernel
theorem d_D_clear_15 : decode prog_1_method_7_code 15 = .ok (.iload_n 1, 1) := by decide +kernel
theorem d_D_clear_16 : decode prog_1_method_7_code 16 = .ok (.iconst 0, 1) := by decide +kernel
theorem d_D_clear_17 : decode prog_1_method_7_code 17 = .ok (.iconst 0, 1) := by decide +kernel
theorem d_D_clear_18 : decode prog_1_method_7_code 18 = .ok (.iconst 0, 1) := by decide +kernel
theorem d_D_clear_19 : decode prog_1_method_7_code 19 = .ok (.iconst 0, 1) := by decide +kernel
theorem d_D_clear_20 : decode prog_1_method_7_code 20 = .ok (.invokevirtual 44, 3) := by decide +kernel
theorem d_D_clear_23 : decode prog_1_method_7_code 23 = .ok (.ireturn, 1) := by decide +kernel
theorem d_D_publish_0 : decode prog_1_method_8_code 0 = .ok (.aload_n 0, 1) := by decide +kernel
theorem d_D_publish_1 : decode prog_1_method_8_code 1 = .ok (.getfield 24, 3) := by decide +kernel
theorem d_D_publish_4 : decode prog_1_method_8_code 4 = .ok (.invokevirtual 48, 3) := by decide +kernel
theorem d_D_publish_7 : decode prog_1_method_8_code 7 = .ok (.ireturn, 1) := by decide +kernel
theorem d_P_closePacket_0 : decode prog_4_method_3_code 0 = .ok (.aload_n 0, 1) := by decide +kernel
theorem d_P_closePacket_1 : decode prog_4_method_3_code 1 = .ok (.getfield 23, 3) := by decide +kernel
theorem d_P_closePacket_4 : decode prog_4_method_3_code 4 = .ok (.aload_n 0, 1) := by decide +kernel
theorem d_P_closePacket_5 : decode prog_4_method_3_code 5 = .ok (.getfield 27, 3) := by decide +kernel
theorem d_P_closePacket_8 : decode prog_4_method_3_code 8 = .ok (.aload_n 0, 1) := by decide +kernel
theorem d_P_closePacket_9 : decode prog_4_method_3_code 9 = .ok (.getfield 31, 3) := by decide +kernel
theorem d_P_closePacket_12 : decode prog_4_method_3_code 12 = .ok (.iaload, 1) := by decide +kernel
theorem d_P_closePacket_13 : decode prog_4_method_3_code 13 = .ok (.if_icmp .ne 5, 3) := by decide +kernel
theorem d_P_closePacket_16 : decode prog_4_method_3_code 16 = .ok (.iconst 0, 1) := by decide +kernel
theorem d_P_closePacket_17 : decode prog_4_method_3_code 17 = .ok (.ireturn, 1) := by decide +kernel
theorem d_P_closePacket_18 : decode prog_4_method_3_code 18 = .ok (.aload_n 0, 1) := by decide +kernel
theorem d_P_closePacket_19 : decode prog_4_method_3_code 19 = .ok (.dup, 1) := by decide +kernel
theorem d_P_closePacket_20 : decode prog_4_method_3_code 20 = .ok (.getfield 31, 3) := by decide +kernel
theorem d_P_closePacket_23 : decode prog_4_method_3_code 23 = .ok (.iconst 1, 1) := by decide +kernel
theorem d_P_closePacket_24 : decode prog_4_method_3_code 24 = .ok (.iadd, 1) := by decide +kernel
theorem d_P_closePacket_25 : decode prog_4_method_3_code 25 = .ok (.putfield 31, 3) := by decide +kernel
theorem d_P_closePacket_28 : decode prog_4_method_3_code 28 = .ok (.aload_n 0, 1) := by decide +kernel
theorem d_P_closePacket_29 : decode prog_4_method_3_code 29 = .ok (.getfield 27, 3) := by decide +kernel
theorem d_P_closePacket_32 : decode prog_4_method_3_code 32 = .ok (.aload_n 0, 1) := by decide +kernel
theorem d_P_closePacket_33 : decode prog_4_method_3_code 33 = .ok (.getfield 31, 3) := by decide +kernel
theorem d_P_closePacket_36 : decode prog_4_method_3_code 36 = .ok (.aload_n 0, 1) := by decide +kernel
theorem d_P_closePacket_37 : decode prog_4_method_3_code 37 = .ok (.getfield 23, 3) := by decide +kernel
theorem d_P_closePacket_40 : decode prog_4_method_3_code 40 = .ok (.iastore, 1) := by decide +kernel
theorem d_P_closePacket_41 : decode prog_4_method_3_code 41 = .ok (.aload_n 0, 1) := by decide +kernel
theorem d_P_closePacket_42 : decode prog_4_method_3_code 42 = .ok (.getfield 31, 3) := by decide +kernel
theorem d_P_closePacket_45 : decode prog_4_method_3_code 45 = .ok (.ireturn, 1) := by decide +kernel
theorem d_D_packetByte_0 : decode prog_1_method_9_code 0 = .ok (.aload_n 0, 1) := by decide +kernel
theorem d_D_packetByte_1 : decode prog_1_method_9_code 1 = .ok (.getfield 24, 3) := by decide +kernel
theorem d_D_packetByte_4 : decode prog_1_method_9_code 4 = .ok (.iload_n 1, 1) := by decide +kernel
theorem d_D_packetByte_5 : decode prog_1_method_9_code 5 = .ok (.iload_n 2, 1) := by decide +kernel
theorem d_D_packetByte_6 : decode prog_1_method_9_code 6 = .ok (.invokevirtual 52, 3) := by decide +kernel
theorem d_D_packetByte_9 : decode prog_1_method_9_code 9 = .ok (.ireturn, 1) := by decide +kernel
