/-! the instructions (by program, from the listing) -/
theorem d_M_levelAt_0 : decode prog_10_method_12_code 0 = .ok (.iconst (-1), 1) := by decide +kernel
theorem d_M_levelAt_1 : decode prog_10_method_12_code 1 = .ok (.istore_n 3, 1) := by decide +kernel
theorem d_M_levelAt_2 : decode prog_10_method_12_code 2 = .ok (.iconst (-1), 1) := by decide +kernel
theorem d_M_levelAt_3 : decode prog_10_method_12_code 3 = .ok (.istore 4, 2) := by decide +kernel
theorem d_M_levelAt_5 : decode prog_10_method_12_code 5 = .ok (.iconst 0, 1) := by decide +kernel
theorem d_M_levelAt_6 : decode prog_10_method_12_code 6 = .ok (.istore 5, 2) := by decide +kernel
theorem d_M_levelAt_8 : decode prog_10_method_12_code 8 = .ok (.iload 5, 2) := by decide +kernel
theorem d_M_levelAt_10 : decode prog_10_method_12_code 10 = .ok (.bipush 24, 2) := by decide +kernel
theorem d_M_levelAt_12 : decode prog_10_method_12_code 12 = .ok (.if_icmp .ge 62, 3) := by decide +kernel
theorem d_M_levelAt_15 : decode prog_10_method_12_code 15 = .ok (.aload_n 0, 1) := by decide +kernel
theorem d_M_levelAt_16 : decode prog_10_method_12_code 16 = .ok (.iload_n 1, 1) := by decide +kernel
theorem d_M_levelAt_17 : decode prog_10_method_12_code 17 = .ok (.iload 5, 2) := by decide +kernel
theorem d_M_levelAt_19 : decode prog_10_method_12_code 19 = .ok (.invokevirtual 132, 3) := by decide +kernel
theorem d_M_levelAt_22 : decode prog_10_method_12_code 22 = .ok (.istore 6, 2) := by decide +kernel
theorem d_M_levelAt_24 : decode prog_10_method_12_code 24 = .ok (.iload 6, 2) := by decide +kernel
theorem d_M_levelAt_26 : decode prog_10_method_12_code 26 = .ok (.ifCond .ge 5, 3) := by decide +kernel
theorem d_M_levelAt_29 : decode prog_10_method_12_code 29 = .ok (.iconst (-1), 1) := by decide +kernel
theorem d_M_levelAt_30 : decode prog_10_method_12_code 30 = .ok (.ireturn, 1) := by decide +kernel
theorem d_M_levelAt_31 : decode prog_10_method_12_code 31 = .ok (.iload 4, 2) := by decide +kernel
theorem d_M_levelAt_33 : decode prog_10_method_12_code 33 = .ok (.ifCond .lt 20, 3) := by decide +kernel
theorem d_M_levelAt_36 : decode prog_10_method_12_code 36 = .ok (.aload_n 0, 1) := by decide +kernel
theorem d_M_levelAt_37 : decode prog_10_method_12_code 37 = .ok (.getfield 43, 3) := by decide +kernel
theorem d_M_levelAt_40 : decode prog_10_method_12_code 40 = .ok (.iload 6, 2) := by decide +kernel
theorem d_M_levelAt_42 : decode prog_10_method_12_code 42 = .ok (.iaload, 1) := by decide +kernel
theorem d_M_levelAt_43 : decode prog_10_method_12_code 43 = .ok (.aload_n 0, 1) := by decide +kernel
theorem d_M_levelAt_44 : decode prog_10_method_12_code 44 = .ok (.getfield 43, 3) := by decide +kernel
theorem d_M_levelAt_47 : decode prog_10_method_12_code 47 = .ok (.iload 4, 2) := by decide +kernel
theorem d_M_levelAt_49 : decode prog_10_method_12_code 49 = .ok (.iaload, 1) := by decide +kernel
theorem d_M_levelAt_50 : decode prog_10_method_12_code 50 = .ok (.if_icmp .eq 6, 3) := by decide +kernel
theorem d_M_levelAt_53 : decode prog_10_method_12_code 53 = .ok (.iinc 3 1, 3) := by decide +kernel
theorem d_M_levelAt_56 : decode prog_10_method_12_code 56 = .ok (.iload_n 3, 1) := by decide +kernel
theorem d_M_levelAt_57 : decode prog_10_method_12_code 57 = .ok (.iload_n 2, 1) := by decide +kernel
theorem d_M_levelAt_58 : decode prog_10_method_12_code 58 = .ok (.if_icmp .ne 6, 3) := by decide +kernel
theorem d_M_levelAt_61 : decode prog_10_method_12_code 61 = .ok (.iload 6, 2) := by decide +kernel
theorem d_M_levelAt_63 : decode prog_10_method_12_code 63 = .ok (.ireturn, 1) := by decide +kernel
theorem d_M_levelAt_64 : decode prog_10_method_12_code 64 = .ok (.iload 6, 2) := by decide +kernel
theorem d_M_levelAt_66 : decode prog_10_method_12_code 66 = .ok (.istore 4, 2) := by decide +kernel
theorem d_M_levelAt_68 : decode prog_10_method_12_code 68 = .ok (.iinc 5 1, 3) := by decide +kernel
theorem d_M_levelAt_71 : decode prog_10_method_12_code 71 = .ok (.goto (-63), 3) := by decide +kernel
theorem d_M_levelAt_74 : decode prog_10_method_12_code 74 = .ok (.iconst (-1), 1) := by decide +kernel
theorem d_M_levelAt_75 : decode prog_10_method_12_code 75 = .ok (.ireturn, 1) := by decide +kernel
theorem d_M_orderAt_0 : decode prog_10_method_11_code 0 = .ok (.iconst 0, 1) := by decide +kernel
theorem d_M_orderAt_1 : decode prog_10_method_11_code 1 = .ok (.istore_n 3, 1) := by decide +kernel
theorem d_M_orderAt_2 : decode prog_10_method_11_code 2 = .ok (.iload_n 3, 1) := by decide +kernel
theorem d_M_orderAt_3 : decode prog_10_method_11_code 3 = .ok (.aload_n 0, 1) := by decide +kernel
theorem d_M_orderAt_4 : decode prog_10_method_11_code 4 = .ok (.getfield 106, 3) := by decide +kernel
theorem d_M_orderAt_7 : decode prog_10_method_11_code 7 = .ok (.if_icmp .ge 72, 3) := by decide +kernel
theorem d_M_orderAt_10 : decode prog_10_method_11_code 10 = .ok (.aload_n 0, 1) := by decide +kernel
theorem d_M_orderAt_11 : decode prog_10_method_11_code 11 = .ok (.getfield 40, 3) := by decide +kernel
theorem d_M_orderAt_14 : decode prog_10_method_11_code 14 = .ok (.iload_n 3, 1) := by decide +kernel
theorem d_M_orderAt_15 : decode prog_10_method_11_code 15 = .ok (.iaload, 1) := by decide +kernel
theorem d_M_orderAt_16 : decode prog_10_method_11_code 16 = .ok (.iload_n 1, 1) := by decide +kernel
theorem d_M_orderAt_17 : decode prog_10_method_11_code 17 = .ok (.if_icmp .ne 56, 3) := by decide +kernel
theorem d_M_orderAt_20 : decode prog_10_method_11_code 20 = .ok (.iconst 0, 1) := by decide +kernel
theorem d_M_orderAt_21 : decode prog_10_method_11_code 21 = .ok (.istore 4, 2) := by decide +kernel
theorem d_M_orderAt_23 : decode prog_10_method_11_code 23 = .ok (.iconst 0, 1) := by decide +kernel
theorem d_M_orderAt_24 : decode prog_10_method_11_code 24 = .ok (.istore 5, 2) := by decide +kernel
theorem d_M_orderAt_26 : decode prog_10_method_11_code 26 = .ok (.iload 5, 2) := by decide +kernel
theorem d_M_orderAt_28 : decode prog_10_method_11_code 28 = .ok (.aload_n 0, 1) := by decide +kernel
theorem d_M_orderAt_29 : decode prog_10_method_11_code 29 = .ok (.getfield 106, 3) := by decide +kernel
theorem d_M_orderAt_32 : decode prog_10_method_11_code 32 = .ok (.if_icmp .ge 33, 3) := by decide +kernel
theorem d_M_orderAt_35 : decode prog_10_method_11_code 35 = .ok (.aload_n 0, 1) := by decide +kernel
theorem d_M_orderAt_36 : decode prog_10_method_11_code 36 = .ok (.getfield 40, 3) := by decide +kernel
theorem d_M_orderAt_39 : decode prog_10_method_11_code 39 = .ok (.iload 5, 2) := by decide +kernel
theorem d_M_orderAt_41 : decode prog_10_method_11_code 41 = .ok (.iaload, 1) := by decide +kernel
theorem d_M_orderAt_42 : decode prog_10_method_11_code 42 = .ok (.iload_n 1, 1) := by decide +kernel
theorem d_M_orderAt_43 : decode prog_10_method_11_code 43 = .ok (.if_icmp .ne 16, 3) := by decide +kernel
theorem d_M_orderAt_46 : decode prog_10_method_11_code 46 = .ok (.aload_n 0, 1) := by decide +kernel
theorem d_M_orderAt_47 : decode prog_10_method_11_code 47 = .ok (.iload 5, 2) := by decide +kernel
theorem d_M_orderAt_49 : decode prog_10_method_11_code 49 = .ok (.iload_n 3, 1) := by decide +kernel
theorem d_M_orderAt_50 : decode prog_10_method_11_code 50 = .ok (.invokevirtual 128, 3) := by decide +kernel
theorem d_M_orderAt_53 : decode prog_10_method_11_code 53 = .ok (.ifCond .eq 6, 3) := by decide +kernel
theorem d_M_orderAt_56 : decode prog_10_method_11_code 56 = .ok (.iinc 4 1, 3) := by decide +kernel
theorem d_M_orderAt_59 : decode prog_10_method_11_code 59 = .ok (.iinc 5 1, 3) := by decide +kernel
theorem d_M_orderAt_62 : decode prog_10_method_11_code 62 = .ok (.goto (-36), 3) := by decide +kernel
theorem d_M_orderAt_65 : decode prog_10_method_11_code 65 = .ok (.iload 4, 2) := by decide +kernel
theorem d_M_orderAt_67 : decode prog_10_method_11_code 67 = .ok (.iload_n 2, 1) := by decide +kernel
theorem d_M_orderAt_68 : decode prog_10_method_11_code 68 = .ok (.if_icmp .ne 5, 3) := by decide +kernel
theorem d_M_orderAt_71 : decode prog_10_method_11_code 71 = .ok (.iload_n 3, 1) := by decide +kernel
theorem d_M_orderAt_72 : decode prog_10_method_11_code 72 = .ok (.ireturn, 1) := by decide +kernel
theorem d_M_orderAt_73 : decode prog_10_method_11_code 73 = .ok (.iinc 3 1, 3) := by decide +kernel
theorem d_M_orderAt_76 : decode prog_10_method_11_code 76 = .ok (.goto (-74), 3) := by decide +kernel
theorem d_M_orderAt_79 : decode prog_10_method_11_code 79 = .ok (.iconst (-1), 1) := by decide +kernel
theorem d_M_orderAt_80 : decode prog_10_method_11_code 80 = .ok (.ireturn, 1) := by decide +kernel
theorem d_M_ahead_0 : decode prog_10_method_10_code 0 = .ok (.aload_n 0, 1) := by decide +kernel
theorem d_M_ahead_1 : decode prog_10_method_10_code 1 = .ok (.getfield 43, 3) := by decide +kernel
theorem d_M_ahead_4 : decode prog_10_method_10_code 4 = .ok (.iload_n 1, 1) := by decide +kernel
theorem d_M_ahead_5 : decode prog_10_method_10_code 5 = .ok (.iaload, 1) := by decide +kernel
theorem d_M_ahead_6 : decode prog_10_method_10_code 6 = .ok (.aload_n 0, 1) := by decide +kernel
theorem d_M_ahead_7 : decode prog_10_method_10_code 7 = .ok (.getfield 43, 3) := by decide +kernel
theorem d_M_ahead_10 : decode prog_10_method_10_code 10 = .ok (.iload_n 2, 1) := by decide +kernel
theorem d_M_ahead_11 : decode prog_10_method_10_code 11 = .ok (.iaload, 1) := by decide +kernel
theorem d_M_ahead_12 : decode prog_10_method_10_code 12 = .ok (.if_icmp .eq 56, 3) := by decide +kernel
theorem d_M_ahead_15 : decode prog_10_method_10_code 15 = .ok (.aload_n 0, 1) := by decide +kernel
theorem d_M_ahead_16 : decode prog_10_method_10_code 16 = .ok (.getfield 40, 3) := by decide +kernel
theorem d_M_ahead_19 : decode prog_10_method_10_code 19 = .ok (.iload_n 1, 1) := by decide +kernel
theorem d_M_ahead_20 : decode prog_10_method_10_code 20 = .ok (.iaload, 1) := by decide +kernel
theorem d_M_ahead_21 : decode prog_10_method_10_code 21 = .ok (.ifCond .ne 26, 3) := by decide +kernel
theorem d_M_ahead_24 : decode prog_10_method_10_code 24 = .ok (.aload_n 0, 1) := by decide +kernel
theorem d_M_ahead_25 : decode prog_10_method_10_code 25 = .ok (.getfield 43, 3) := by decide +kernel
theorem d_M_ahead_28 : decode prog_10_method_10_code 28 = .ok (.iload_n 1, 1) := by decide +kernel
theorem d_M_ahead_29 : decode prog_10_method_10_code 29 = .ok (.iaload, 1) := by decide +kernel
theorem d_M_ahead_30 : decode prog_10_method_10_code 30 = .ok (.aload_n 0, 1) := by decide +kernel
theorem d_M_ahead_31 : decode prog_10_method_10_code 31 = .ok (.getfield 43, 3) := by decide +kernel
theorem d_M_ahead_34 : decode prog_10_method_10_code 34 = .ok (.iload_n 2, 1) := by decide +kernel
theorem d_M_ahead_35 : decode prog_10_method_10_code 35 = .ok (.iaload, 1) := by decide +kernel
theorem d_M_ahead_36 : decode prog_10_method_10_code 36 = .ok (.if_icmp .le 7, 3) := by decide +kernel
theorem d_M_ahead_39 : decode prog_10_method_10_code 39 = .ok (.iconst 1, 1) := by decide +kernel
theorem d_M_ahead_40 : decode prog_10_method_10_code 40 = .ok (.goto 27, 3) := by decide +kernel
theorem d_M_ahead_43 : decode prog_10_method_10_code 43 = .ok (.iconst 0, 1) := by decide +kernel
theorem d_M_ahead_44 : decode prog_10_method_10_code 44 = .ok (.goto 23, 3) := by decide +kernel
theorem d_M_ahead_47 : decode prog_10_method_10_code 47 = .ok (.aload_n 0, 1) := by decide +kernel
theorem d_M_ahead_48 : decode prog_10_method_10_code 48 = .ok (.getfield 43, 3) := by decide +kernel
theorem d_M_ahead_51 : decode prog_10_method_10_code 51 = .ok (.iload_n 1, 1) := by decide +kernel
theorem d_M_ahead_52 : decode prog_10_method_10_code 52 = .ok (.iaload, 1) := by decide +kernel
theorem d_M_ahead_53 : decode prog_10_method_10_code 53 = .ok (.aload_n 0, 1) := by decide +kernel
theorem d_M_ahead_54 : decode prog_10_method_10_code 54 = .ok (.getfield 43, 3) := by decide +kernel
theorem d_M_ahead_57 : decode prog_10_method_10_code 57 = .ok (.iload_n 2, 1) := by decide +kernel
theorem d_M_ahead_58 : decode prog_10_method_10_code 58 = .ok (.iaload, 1) := by decide +kernel
theorem d_M_ahead_59 : decode prog_10_method_10_code 59 = .ok (.if_icmp .ge 7, 3) := by decide +kernel
theorem d_M_ahead_62 : decode prog_10_method_10_code 62 = .ok (.iconst 1, 1) := by decide +kernel
theorem d_M_ahead_63 : decode prog_10_method_10_code 63 = .ok (.goto 4, 3) := by decide +kernel
theorem d_M_ahead_66 : decode prog_10_method_10_code 66 = .ok (.iconst 0, 1) := by decide +kernel
theorem d_M_ahead_67 : decode prog_10_method_10_code 67 = .ok (.ireturn, 1) := by decide +kernel
theorem d_M_ahead_68 : decode prog_10_method_10_code 68 = .ok (.iload_n 1, 1) := by decide +kernel
theorem d_M_ahead_69 : decode prog_10_method_10_code 69 = .ok (.iload_n 2, 1) := by decide +kernel
theorem d_M_ahead_70 : decode prog_10_method_10_code 70 = .ok (.if_icmp .ge 7, 3) := by decide +kernel
theorem d_M_ahead_73 : decode prog_10_method_10_code 73 = .ok (.iconst 1, 1) := by decide +kernel
theorem d_M_ahead_74 : decode prog_10_method_10_code 74 = .ok (.goto 4, 3) := by decide +kernel
theorem d_M_ahead_77 : decode prog_10_method_10_code 77 = .ok (.iconst 0, 1) := by decide +kernel
theorem d_M_ahead_78 : decode prog_10_method_10_code 78 = .ok (.ireturn, 1) := by decide +kernel
theorem d_M_follow_0 : decode prog_10_method_28_code 0 = .ok (.iconst 4, 1) := by decide +kernel
theorem d_M_follow_1 : decode prog_10_method_28_code 1 = .ok (.iload_n 1, 1) := by decide +kernel
theorem d_M_follow_2 : decode prog_10_method_28_code 2 = .ok (.imul, 1) := by decide +kernel
theorem d_M_follow_3 : decode prog_10_method_28_code 3 = .ok (.iload_n 2, 1) := by decide +kernel
theorem d_M_follow_4 : decode prog_10_method_28_code 4 = .ok (.iadd, 1) := by decide +kernel
theorem d_M_follow_5 : decode prog_10_method_28_code 5 = .ok (.istore_n 3, 1) := by decide +kernel
theorem d_M_follow_6 : decode prog_10_method_28_code 6 = .ok (.aload_n 0, 1) := by decide +kernel
theorem d_M_follow_7 : decode prog_10_method_28_code 7 = .ok (.getfield 55, 3) := by decide +kernel
theorem d_M_follow_10 : decode prog_10_method_28_code 10 = .ok (.iload_n 3, 1) := by decide +kernel
theorem d_M_follow_11 : decode prog_10_method_28_code 11 = .ok (.iaload, 1) := by decide +kernel
theorem d_M_follow_12 : decode prog_10_method_28_code 12 = .ok (.sipush 400, 3) := by decide +kernel
theorem d_M_follow_15 : decode prog_10_method_28_code 15 = .ok (.if_icmp .ge 55, 3) := by decide +kernel
theorem d_M_follow_18 : decode prog_10_method_28_code 18 = .ok (.aload_n 0, 1) := by decide +kernel
theorem d_M_follow_19 : decode prog_10_method_28_code 19 = .ok (.getfield 61, 3) := by decide +kernel
theorem d_M_follow_22 : decode prog_10_method_28_code 22 = .ok (.sipush 401, 3) := by decide +kernel
theorem d_M_follow_25 : decode prog_10_method_28_code 25 = .ok (.iload_n 3, 1) := by decide +kernel
theorem d_M_follow_26 : decode prog_10_method_28_code 26 = .ok (.imul, 1) := by decide +kernel
theorem d_M_follow_27 : decode prog_10_method_28_code 27 = .ok (.aload_n 0, 1) := by decide +kernel
theorem d_M_follow_28 : decode prog_10_method_28_code 28 = .ok (.getfield 55, 3) := by decide +kernel
theorem d_M_follow_31 : decode prog_10_method_28_code 31 = .ok (.iload_n 3, 1) := by decide +kernel
theorem d_M_follow_32 : decode prog_10_method_28_code 32 = .ok (.iaload, 1) := by decide +kernel
theorem d_M_follow_33 : decode prog_10_method_28_code 33 = .ok (.iadd, 1) := by decide +kernel
theorem d_M_follow_34 : decode prog_10_method_28_code 34 = .ok (.iconst 1, 1) := by decide +kernel
theorem d_M_follow_35 : decode prog_10_method_28_code 35 = .ok (.iadd, 1) := by decide +kernel
theorem d_M_follow_36 : decode prog_10_method_28_code 36 = .ok (.baload, 1) := by decide +kernel
theorem d_M_follow_37 : decode prog_10_method_28_code 37 = .ok (.ifCond .eq 33, 3) := by decide +kernel
theorem d_M_follow_40 : decode prog_10_method_28_code 40 = .ok (.aload_n 0, 1) := by decide +kernel
theorem d_M_follow_41 : decode prog_10_method_28_code 41 = .ok (.iload_n 3, 1) := by decide +kernel
theorem d_M_follow_42 : decode prog_10_method_28_code 42 = .ok (.aload_n 0, 1) := by decide +kernel
theorem d_M_follow_43 : decode prog_10_method_28_code 43 = .ok (.getfield 55, 3) := by decide +kernel
theorem d_M_follow_46 : decode prog_10_method_28_code 46 = .ok (.iload_n 3, 1) := by decide +kernel
theorem d_M_follow_47 : decode prog_10_method_28_code 47 = .ok (.iaload, 1) := by decide +kernel
theorem d_M_follow_48 : decode prog_10_method_28_code 48 = .ok (.iconst 1, 1) := by decide +kernel
theorem d_M_follow_49 : decode prog_10_method_28_code 49 = .ok (.iadd, 1) := by decide +kernel
theorem d_M_follow_50 : decode prog_10_method_28_code 50 = .ok (.invokevirtual 173, 3) := by decide +kernel
theorem d_M_follow_53 : decode prog_10_method_28_code 53 = .ok (.aload_n 0, 1) := by decide +kernel
theorem d_M_follow_54 : decode prog_10_method_28_code 54 = .ok (.iload_n 1, 1) := by decide +kernel
theorem d_M_follow_55 : decode prog_10_method_28_code 55 = .ok (.iload_n 2, 1) := by decide +kernel
theorem d_M_follow_56 : decode prog_10_method_28_code 56 = .ok (.aload_n 0, 1) := by decide +kernel
theorem d_M_follow_57 : decode prog_10_method_28_code 57 = .ok (.getfield 55, 3) := by decide +kernel
theorem d_M_follow_60 : decode prog_10_method_28_code 60 = .ok (.iload_n 3, 1) := by decide +kernel
theorem d_M_follow_61 : decode prog_10_method_28_code 61 = .ok (.iaload, 1) := by decide +kernel
theorem d_M_follow_62 : decode prog_10_method_28_code 62 = .ok (.iconst 1, 1) := by decide +kernel
theorem d_M_follow_63 : decode prog_10_method_28_code 63 = .ok (.iadd, 1) := by decide +kernel
theorem d_M_follow_64 : decode prog_10_method_28_code 64 = .ok (.invokevirtual 176, 3) := by decide +kernel
theorem d_M_follow_67 : decode prog_10_method_28_code 67 = .ok (.goto (-61), 3) := by decide +kernel
theorem d_M_follow_70 : decode prog_10_method_28_code 70 = .ok (.return_, 1) := by decide +kernel
theorem d_M_release_0 : decode prog_10_method_27_code 0 = .ok (.aload_n 0, 1) := by decide +kernel
theorem d_M_release_1 : decode prog_10_method_27_code 1 = .ok (.getfield 61, 3) := by decide +kernel
theorem d_M_release_4 : decode prog_10_method_27_code 4 = .ok (.sipush 401, 3) := by decide +kernel
theorem d_M_release_7 : decode prog_10_method_27_code 7 = .ok (.iload_n 1, 1) := by decide +kernel
theorem d_M_release_8 : decode prog_10_method_27_code 8 = .ok (.imul, 1) := by decide +kernel
theorem d_M_release_9 : decode prog_10_method_27_code 9 = .ok (.iload_n 2, 1) := by decide +kernel
theorem d_M_release_10 : decode prog_10_method_27_code 10 = .ok (.iadd, 1) := by decide +kernel
theorem d_M_release_11 : decode prog_10_method_27_code 11 = .ok (.baload, 1) := by decide +kernel
theorem d_M_release_12 : decode prog_10_method_27_code 12 = .ok (.ifCond .eq 26, 3) := by decide +kernel
theorem d_M_release_15 : decode prog_10_method_27_code 15 = .ok (.aload_n 0, 1) := by decide +kernel
theorem d_M_release_16 : decode prog_10_method_27_code 16 = .ok (.getfield 61, 3) := by decide +kernel
theorem d_M_release_19 : decode prog_10_method_27_code 19 = .ok (.sipush 401, 3) := by decide +kernel
theorem d_M_release_22 : decode prog_10_method_27_code 22 = .ok (.iload_n 1, 1) := by decide +kernel
theorem d_M_release_23 : decode prog_10_method_27_code 23 = .ok (.imul, 1) := by decide +kernel
theorem d_M_release_24 : decode prog_10_method_27_code 24 = .ok (.iload_n 2, 1) := by decide +kernel
theorem d_M_release_25 : decode prog_10_method_27_code 25 = .ok (.iadd, 1) := by decide +kernel
theorem d_M_release_26 : decode prog_10_method_27_code 26 = .ok (.iconst 0, 1) := by decide +kernel
theorem d_M_release_27 : decode prog_10_method_27_code 27 = .ok (.bastore, 1) := by decide +kernel
theorem d_M_release_28 : decode prog_10_method_27_code 28 = .ok (.aload_n 0, 1) := by decide +kernel
theorem d_M_release_29 : decode prog_10_method_27_code 29 = .ok (.getfield 65, 3) := by decide +kernel
theorem d_M_release_32 : decode prog_10_method_27_code 32 = .ok (.iload_n 1, 1) := by decide +kernel
theorem d_M_release_33 : decode prog_10_method_27_code 33 = .ok (.dup2, 1) := by decide +kernel
theorem d_M_release_34 : decode prog_10_method_27_code 34 = .ok (.iaload, 1) := by decide +kernel
theorem d_M_release_35 : decode prog_10_method_27_code 35 = .ok (.iconst 1, 1) := by decide +kernel
theorem d_M_release_36 : decode prog_10_method_27_code 36 = .ok (.isub, 1) := by decide +kernel
theorem d_M_release_37 : decode prog_10_method_27_code 37 = .ok (.iastore, 1) := by decide +kernel
theorem d_M_release_38 : decode prog_10_method_27_code 38 = .ok (.return_, 1) := by decide +kernel
theorem d_M_goOn_0 : decode prog_10_method_31_code 0 = .ok (.aload_n 0, 1) := by decide +kernel
theorem d_M_goOn_1 : decode prog_10_method_31_code 1 = .ok (.getfield 68, 3) := by decide +kernel
theorem d_M_goOn_4 : decode prog_10_method_31_code 4 = .ok (.iload_n 1, 1) := by decide +kernel
theorem d_M_goOn_5 : decode prog_10_method_31_code 5 = .ok (.iaload, 1) := by decide +kernel
theorem d_M_goOn_6 : decode prog_10_method_31_code 6 = .ok (.aload_n 0, 1) := by decide +kernel
theorem d_M_goOn_7 : decode prog_10_method_31_code 7 = .ok (.getfield 148, 3) := by decide +kernel
theorem d_M_goOn_10 : decode prog_10_method_31_code 10 = .ok (.if_icmp .gt 31, 3) := by decide +kernel
theorem d_M_goOn_13 : decode prog_10_method_31_code 13 = .ok (.aload_n 0, 1) := by decide +kernel
theorem d_M_goOn_14 : decode prog_10_method_31_code 14 = .ok (.getfield 74, 3) := by decide +kernel
theorem d_M_goOn_17 : decode prog_10_method_31_code 17 = .ok (.sipush 402, 3) := by decide +kernel
theorem d_M_goOn_20 : decode prog_10_method_31_code 20 = .ok (.iload_n 1, 1) := by decide +kernel
theorem d_M_goOn_21 : decode prog_10_method_31_code 21 = .ok (.imul, 1) := by decide +kernel
theorem d_M_goOn_22 : decode prog_10_method_31_code 22 = .ok (.aload_n 0, 1) := by decide +kernel
theorem d_M_goOn_23 : decode prog_10_method_31_code 23 = .ok (.getfield 68, 3) := by decide +kernel
theorem d_M_goOn_26 : decode prog_10_method_31_code 26 = .ok (.iload_n 1, 1) := by decide +kernel
theorem d_M_goOn_27 : decode prog_10_method_31_code 27 = .ok (.iaload, 1) := by decide +kernel
theorem d_M_goOn_28 : decode prog_10_method_31_code 28 = .ok (.iadd, 1) := by decide +kernel
theorem d_M_goOn_29 : decode prog_10_method_31_code 29 = .ok (.baload, 1) := by decide +kernel
theorem d_M_goOn_30 : decode prog_10_method_31_code 30 = .ok (.ifCond .eq 11, 3) := by decide +kernel
theorem d_M_goOn_33 : decode prog_10_method_31_code 33 = .ok (.aload_n 0, 1) := by decide +kernel
theorem d_M_goOn_34 : decode prog_10_method_31_code 34 = .ok (.iload_n 1, 1) := by decide +kernel
theorem d_M_goOn_35 : decode prog_10_method_31_code 35 = .ok (.invokevirtual 186, 3) := by decide +kernel
theorem d_M_goOn_38 : decode prog_10_method_31_code 38 = .ok (.goto (-38), 3) := by decide +kernel
theorem d_M_goOn_41 : decode prog_10_method_31_code 41 = .ok (.return_, 1) := by decide +kernel
theorem d_M_askReplay_0 : decode prog_10_method_35_code 0 = .ok (.iload_n 1, 1) := by decide +kernel
theorem d_M_askReplay_1 : decode prog_10_method_35_code 1 = .ok (.invokestatic 192, 3) := by decide +kernel
theorem d_M_askReplay_4 : decode prog_10_method_35_code 4 = .ok (.ifCond .ne 6, 3) := by decide +kernel
theorem d_M_askReplay_7 : decode prog_10_method_35_code 7 = .ok (.bipush (-2), 2) := by decide +kernel
theorem d_M_askReplay_9 : decode prog_10_method_35_code 9 = .ok (.ireturn, 1) := by decide +kernel
theorem d_M_askReplay_10 : decode prog_10_method_35_code 10 = .ok (.aload_n 0, 1) := by decide +kernel
theorem d_M_askReplay_11 : decode prog_10_method_35_code 11 = .ok (.iload_n 1, 1) := by decide +kernel
theorem d_M_askReplay_12 : decode prog_10_method_35_code 12 = .ok (.invokevirtual 198, 3) := by decide +kernel
theorem d_M_askReplay_15 : decode prog_10_method_35_code 15 = .ok (.istore_n 2, 1) := by decide +kernel
theorem d_M_askReplay_16 : decode prog_10_method_35_code 16 = .ok (.aload_n 0, 1) := by decide +kernel
theorem d_M_askReplay_17 : decode prog_10_method_35_code 17 = .ok (.getfield 77, 3) := by decide +kernel
theorem d_M_askReplay_20 : decode prog_10_method_35_code 20 = .ok (.iload_n 1, 1) := by decide +kernel
theorem d_M_askReplay_21 : decode prog_10_method_35_code 21 = .ok (.iload_n 2, 1) := by decide +kernel
theorem d_M_askReplay_22 : decode prog_10_method_35_code 22 = .ok (.aload_n 0, 1) := by decide +kernel
theorem d_M_askReplay_23 : decode prog_10_method_35_code 23 = .ok (.getfield 68, 3) := by decide +kernel
theorem d_M_askReplay_26 : decode prog_10_method_35_code 26 = .ok (.iload_n 1, 1) := by decide +kernel
theorem d_M_askReplay_27 : decode prog_10_method_35_code 27 = .ok (.iaload, 1) := by decide +kernel
theorem d_M_askReplay_28 : decode prog_10_method_35_code 28 = .ok (.if_icmp .ge 7, 3) := by decide +kernel
theorem d_M_askReplay_31 : decode prog_10_method_35_code 31 = .ok (.iconst 0, 1) := by decide +kernel
theorem d_M_askReplay_32 : decode prog_10_method_35_code 32 = .ok (.goto 4, 3) := by decide +kernel
theorem d_M_askReplay_35 : decode prog_10_method_35_code 35 = .ok (.iload_n 2, 1) := by decide +kernel
theorem d_M_askReplay_36 : decode prog_10_method_35_code 36 = .ok (.iastore, 1) := by decide +kernel
theorem d_M_askReplay_37 : decode prog_10_method_35_code 37 = .ok (.iload_n 2, 1) := by decide +kernel
theorem d_M_askReplay_38 : decode prog_10_method_35_code 38 = .ok (.aload_n 0, 1) := by decide +kernel
theorem d_M_askReplay_39 : decode prog_10_method_35_code 39 = .ok (.getfield 68, 3) := by decide +kernel
theorem d_M_askReplay_42 : decode prog_10_method_35_code 42 = .ok (.iload_n 1, 1) := by decide +kernel
theorem d_M_askReplay_43 : decode prog_10_method_35_code 43 = .ok (.iaload, 1) := by decide +kernel
theorem d_M_askReplay_44 : decode prog_10_method_35_code 44 = .ok (.if_icmp .ge 7, 3) := by decide +kernel
theorem d_M_askReplay_47 : decode prog_10_method_35_code 47 = .ok (.iconst 0, 1) := by decide +kernel
theorem d_M_askReplay_48 : decode prog_10_method_35_code 48 = .ok (.goto 13, 3) := by decide +kernel
theorem d_M_askReplay_51 : decode prog_10_method_35_code 51 = .ok (.iload_n 2, 1) := by decide +kernel
theorem d_M_askReplay_52 : decode prog_10_method_35_code 52 = .ok (.aload_n 0, 1) := by decide +kernel
theorem d_M_askReplay_53 : decode prog_10_method_35_code 53 = .ok (.getfield 68, 3) := by decide +kernel
theorem d_M_askReplay_56 : decode prog_10_method_35_code 56 = .ok (.iload_n 1, 1) := by decide +kernel
theorem d_M_askReplay_57 : decode prog_10_method_35_code 57 = .ok (.iaload, 1) := by decide +kernel
theorem d_M_askReplay_58 : decode prog_10_method_35_code 58 = .ok (.isub, 1) := by decide +kernel
theorem d_M_askReplay_59 : decode prog_10_method_35_code 59 = .ok (.iconst 1, 1) := by decide +kernel
theorem d_M_askReplay_60 : decode prog_10_method_35_code 60 = .ok (.iadd, 1) := by decide +kernel
theorem d_M_askReplay_61 : decode prog_10_method_35_code 61 = .ok (.ireturn, 1) := by decide +kernel
theorem d_M_gapEnd_0 : decode prog_10_method_34_code 0 = .ok (.aload_n 0, 1) := by decide +kernel
theorem d_M_gapEnd_1 : decode prog_10_method_34_code 1 = .ok (.getfield 68, 3) := by decide +kernel
theorem d_M_gapEnd_4 : decode prog_10_method_34_code 4 = .ok (.iload_n 1, 1) := by decide +kernel
theorem d_M_gapEnd_5 : decode prog_10_method_34_code 5 = .ok (.iaload, 1) := by decide +kernel
theorem d_M_gapEnd_6 : decode prog_10_method_34_code 6 = .ok (.istore_n 2, 1) := by decide +kernel
theorem d_M_gapEnd_7 : decode prog_10_method_34_code 7 = .ok (.iload_n 2, 1) := by decide +kernel
theorem d_M_gapEnd_8 : decode prog_10_method_34_code 8 = .ok (.aload_n 0, 1) := by decide +kernel
theorem d_M_gapEnd_9 : decode prog_10_method_34_code 9 = .ok (.getfield 71, 3) := by decide +kernel
theorem d_M_gapEnd_12 : decode prog_10_method_34_code 12 = .ok (.iload_n 1, 1) := by decide +kernel
theorem d_M_gapEnd_13 : decode prog_10_method_34_code 13 = .ok (.iaload, 1) := by decide +kernel
theorem d_M_gapEnd_14 : decode prog_10_method_34_code 14 = .ok (.if_icmp .gt 28, 3) := by decide +kernel
theorem d_M_gapEnd_17 : decode prog_10_method_34_code 17 = .ok (.aload_n 0, 1) := by decide +kernel
theorem d_M_gapEnd_18 : decode prog_10_method_34_code 18 = .ok (.getfield 74, 3) := by decide +kernel
theorem d_M_gapEnd_21 : decode prog_10_method_34_code 21 = .ok (.sipush 402, 3) := by decide +kernel
theorem d_M_gapEnd_24 : decode prog_10_method_34_code 24 = .ok (.iload_n 1, 1) := by decide +kernel
theorem d_M_gapEnd_25 : decode prog_10_method_34_code 25 = .ok (.imul, 1) := by decide +kernel
theorem d_M_gapEnd_26 : decode prog_10_method_34_code 26 = .ok (.iload_n 2, 1) := by decide +kernel
theorem d_M_gapEnd_27 : decode prog_10_method_34_code 27 = .ok (.iadd, 1) := by decide +kernel
theorem d_M_gapEnd_28 : decode prog_10_method_34_code 28 = .ok (.baload, 1) := by decide +kernel
theorem d_M_gapEnd_29 : decode prog_10_method_34_code 29 = .ok (.ifCond .eq 7, 3) := by decide +kernel
theorem d_M_gapEnd_32 : decode prog_10_method_34_code 32 = .ok (.iload_n 2, 1) := by decide +kernel
theorem d_M_gapEnd_33 : decode prog_10_method_34_code 33 = .ok (.iconst 1, 1) := by decide +kernel
theorem d_M_gapEnd_34 : decode prog_10_method_34_code 34 = .ok (.isub, 1) := by decide +kernel
theorem d_M_gapEnd_35 : decode prog_10_method_34_code 35 = .ok (.ireturn, 1) := by decide +kernel
theorem d_M_gapEnd_36 : decode prog_10_method_34_code 36 = .ok (.iinc 2 1, 3) := by decide +kernel
theorem d_M_gapEnd_39 : decode prog_10_method_34_code 39 = .ok (.goto (-32), 3) := by decide +kernel
theorem d_M_gapEnd_42 : decode prog_10_method_34_code 42 = .ok (.aload_n 0, 1) := by decide +kernel
theorem d_M_gapEnd_43 : decode prog_10_method_34_code 43 = .ok (.getfield 71, 3) := by decide +kernel
theorem d_M_gapEnd_46 : decode prog_10_method_34_code 46 = .ok (.iload_n 1, 1) := by decide +kernel
theorem d_M_gapEnd_47 : decode prog_10_method_34_code 47 = .ok (.iaload, 1) := by decide +kernel
theorem d_M_gapEnd_48 : decode prog_10_method_34_code 48 = .ok (.ireturn, 1) := by decide +kernel
theorem d_M_serveReplay_0 : decode prog_10_method_36_code 0 = .ok (.iload_n 1, 1) := by decide +kernel
theorem d_M_serveReplay_1 : decode prog_10_method_36_code 1 = .ok (.invokestatic 192, 3) := by decide +kernel
theorem d_M_serveReplay_4 : decode prog_10_method_36_code 4 = .ok (.ifCond .ne 6, 3) := by decide +kernel
theorem d_M_serveReplay_7 : decode prog_10_method_36_code 7 = .ok (.bipush (-2), 2) := by decide +kernel
theorem d_M_serveReplay_9 : decode prog_10_method_36_code 9 = .ok (.ireturn, 1) := by decide +kernel
theorem d_M_serveReplay_10 : decode prog_10_method_36_code 10 = .ok (.aload_n 0, 1) := by decide +kernel
theorem d_M_serveReplay_11 : decode prog_10_method_36_code 11 = .ok (.getfield 77, 3) := by decide +kernel
theorem d_M_serveReplay_14 : decode prog_10_method_36_code 14 = .ok (.iload_n 1, 1) := by decide +kernel
theorem d_M_serveReplay_15 : decode prog_10_method_36_code 15 = .ok (.iaload, 1) := by decide +kernel
theorem d_M_serveReplay_16 : decode prog_10_method_36_code 16 = .ok (.istore_n 2, 1) := by decide +kernel
theorem d_M_serveReplay_17 : decode prog_10_method_36_code 17 = .ok (.aload_n 0, 1) := by decide +kernel
theorem d_M_serveReplay_18 : decode prog_10_method_36_code 18 = .ok (.getfield 68, 3) := by decide +kernel
theorem d_M_serveReplay_21 : decode prog_10_method_36_code 21 = .ok (.iload_n 1, 1) := by decide +kernel
theorem d_M_serveReplay_22 : decode prog_10_method_36_code 22 = .ok (.iaload, 1) := by decide +kernel
theorem d_M_serveReplay_23 : decode prog_10_method_36_code 23 = .ok (.istore_n 3, 1) := by decide +kernel
theorem d_M_serveReplay_24 : decode prog_10_method_36_code 24 = .ok (.aload_n 0, 1) := by decide +kernel
theorem d_M_serveReplay_25 : decode prog_10_method_36_code 25 = .ok (.getfield 77, 3) := by decide +kernel
theorem d_M_serveReplay_28 : decode prog_10_method_36_code 28 = .ok (.iload_n 1, 1) := by decide +kernel
theorem d_M_serveReplay_29 : decode prog_10_method_36_code 29 = .ok (.iconst 0, 1) := by decide +kernel
theorem d_M_serveReplay_30 : decode prog_10_method_36_code 30 = .ok (.iastore, 1) := by decide +kernel
theorem d_M_serveReplay_31 : decode prog_10_method_36_code 31 = .ok (.iload_n 2, 1) := by decide +kernel
theorem d_M_serveReplay_32 : decode prog_10_method_36_code 32 = .ok (.iload_n 3, 1) := by decide +kernel
theorem d_M_serveReplay_33 : decode prog_10_method_36_code 33 = .ok (.if_icmp .ge 5, 3) := by decide +kernel
theorem d_M_serveReplay_36 : decode prog_10_method_36_code 36 = .ok (.iconst 0, 1) := by decide +kernel
theorem d_M_serveReplay_37 : decode prog_10_method_36_code 37 = .ok (.ireturn, 1) := by decide +kernel
theorem d_M_serveReplay_38 : decode prog_10_method_36_code 38 = .ok (.aload_n 0, 1) := by decide +kernel
theorem d_M_serveReplay_39 : decode prog_10_method_36_code 39 = .ok (.getfield 34, 3) := by decide +kernel
theorem d_M_serveReplay_42 : decode prog_10_method_36_code 42 = .ok (.iload_n 3, 1) := by decide +kernel
theorem d_M_serveReplay_43 : decode prog_10_method_36_code 43 = .ok (.iaload, 1) := by decide +kernel
theorem d_M_serveReplay_44 : decode prog_10_method_36_code 44 = .ok (.aload_n 0, 1) := by decide +kernel
theorem d_M_serveReplay_45 : decode prog_10_method_36_code 45 = .ok (.getfield 34, 3) := by decide +kernel
theorem d_M_serveReplay_48 : decode prog_10_method_36_code 48 = .ok (.aload_n 0, 1) := by decide +kernel
theorem d_M_serveReplay_49 : decode prog_10_method_36_code 49 = .ok (.getfield 148, 3) := by decide +kernel
theorem d_M_serveReplay_52 : decode prog_10_method_36_code 52 = .ok (.iconst 1, 1) := by decide +kernel
theorem d_M_serveReplay_53 : decode prog_10_method_36_code 53 = .ok (.iadd, 1) := by decide +kernel
theorem d_M_serveReplay_54 : decode prog_10_method_36_code 54 = .ok (.iaload, 1) := by decide +kernel
theorem d_M_serveReplay_55 : decode prog_10_method_36_code 55 = .ok (.bipush 40, 2) := by decide +kernel
theorem d_M_serveReplay_57 : decode prog_10_method_36_code 57 = .ok (.isub, 1) := by decide +kernel
theorem d_M_serveReplay_58 : decode prog_10_method_36_code 58 = .ok (.if_icmp .lt 28, 3) := by decide +kernel
theorem d_M_serveReplay_61 : decode prog_10_method_36_code 61 = .ok (.iload_n 3, 1) := by decide +kernel
theorem d_M_serveReplay_62 : decode prog_10_method_36_code 62 = .ok (.istore 4, 2) := by decide +kernel
theorem d_M_serveReplay_64 : decode prog_10_method_36_code 64 = .ok (.iload 4, 2) := by decide +kernel
theorem d_M_serveReplay_66 : decode prog_10_method_36_code 66 = .ok (.iload_n 2, 1) := by decide +kernel
theorem d_M_serveReplay_67 : decode prog_10_method_36_code 67 = .ok (.if_icmp .gt 17, 3) := by decide +kernel
theorem d_M_serveReplay_70 : decode prog_10_method_36_code 70 = .ok (.aload_n 0, 1) := by decide +kernel
theorem d_M_serveReplay_71 : decode prog_10_method_36_code 71 = .ok (.iload_n 1, 1) := by decide +kernel
theorem d_M_serveReplay_72 : decode prog_10_method_36_code 72 = .ok (.iload 4, 2) := by decide +kernel
theorem d_M_serveReplay_74 : decode prog_10_method_36_code 74 = .ok (.invokevirtual 195, 3) := by decide +kernel
theorem d_M_serveReplay_77 : decode prog_10_method_36_code 77 = .ok (.pop, 1) := by decide +kernel
theorem d_M_serveReplay_78 : decode prog_10_method_36_code 78 = .ok (.iinc 4 1, 3) := by decide +kernel
theorem d_M_serveReplay_81 : decode prog_10_method_36_code 81 = .ok (.goto (-17), 3) := by decide +kernel
theorem d_M_serveReplay_84 : decode prog_10_method_36_code 84 = .ok (.iconst 1, 1) := by decide +kernel
theorem d_M_serveReplay_85 : decode prog_10_method_36_code 85 = .ok (.ireturn, 1) := by decide +kernel
theorem d_M_serveReplay_86 : decode prog_10_method_36_code 86 = .ok (.iload_n 3, 1) := by decide +kernel
theorem d_M_serveReplay_87 : decode prog_10_method_36_code 87 = .ok (.istore 4, 2) := by decide +kernel
theorem d_M_serveReplay_89 : decode prog_10_method_36_code 89 = .ok (.iload 4, 2) := by decide +kernel
theorem d_M_serveReplay_91 : decode prog_10_method_36_code 91 = .ok (.iload_n 2, 1) := by decide +kernel
theorem d_M_serveReplay_92 : decode prog_10_method_36_code 92 = .ok (.if_icmp .gt 23, 3) := by decide +kernel
theorem d_M_serveReplay_95 : decode prog_10_method_36_code 95 = .ok (.aload_n 0, 1) := by decide +kernel
theorem d_M_serveReplay_96 : decode prog_10_method_36_code 96 = .ok (.getfield 74, 3) := by decide +kernel
theorem d_M_serveReplay_99 : decode prog_10_method_36_code 99 = .ok (.sipush 402, 3) := by decide +kernel
theorem d_M_serveReplay_102 : decode prog_10_method_36_code 102 = .ok (.iload_n 1, 1) := by decide +kernel
theorem d_M_serveReplay_103 : decode prog_10_method_36_code 103 = .ok (.imul, 1) := by decide +kernel
theorem d_M_serveReplay_104 : decode prog_10_method_36_code 104 = .ok (.iload 4, 2) := by decide +kernel
theorem d_M_serveReplay_106 : decode prog_10_method_36_code 106 = .ok (.iadd, 1) := by decide +kernel
theorem d_M_serveReplay_107 : decode prog_10_method_36_code 107 = .ok (.iconst 0, 1) := by decide +kernel
theorem d_M_serveReplay_108 : decode prog_10_method_36_code 108 = .ok (.bastore, 1) := by decide +kernel
theorem d_M_serveReplay_109 : decode prog_10_method_36_code 109 = .ok (.iinc 4 1, 3) := by decide +kernel
theorem d_M_serveReplay_112 : decode prog_10_method_36_code 112 = .ok (.goto (-23), 3) := by decide +kernel
theorem d_M_serveReplay_115 : decode prog_10_method_36_code 115 = .ok (.aload_n 0, 1) := by decide +kernel
theorem d_M_serveReplay_116 : decode prog_10_method_36_code 116 = .ok (.getfield 68, 3) := by decide +kernel
theorem d_M_serveReplay_119 : decode prog_10_method_36_code 119 = .ok (.iload_n 1, 1) := by decide +kernel
theorem d_M_serveReplay_120 : decode prog_10_method_36_code 120 = .ok (.iload_n 2, 1) := by decide +kernel
theorem d_M_serveReplay_121 : decode prog_10_method_36_code 121 = .ok (.iconst 1, 1) := by decide +kernel
theorem d_M_serveReplay_122 : decode prog_10_method_36_code 122 = .ok (.iadd, 1) := by decide +kernel
theorem d_M_serveReplay_123 : decode prog_10_method_36_code 123 = .ok (.iastore, 1) := by decide +kernel
theorem d_M_serveReplay_124 : decode prog_10_method_36_code 124 = .ok (.iconst 0, 1) := by decide +kernel
theorem d_M_serveReplay_125 : decode prog_10_method_36_code 125 = .ok (.istore 4, 2) := by decide +kernel
theorem d_M_serveReplay_127 : decode prog_10_method_36_code 127 = .ok (.iload 4, 2) := by decide +kernel
theorem d_M_serveReplay_129 : decode prog_10_method_36_code 129 = .ok (.iconst 4, 1) := by decide +kernel
theorem d_M_serveReplay_130 : decode prog_10_method_36_code 130 = .ok (.if_icmp .ge 36, 3) := by decide +kernel
theorem d_M_serveReplay_133 : decode prog_10_method_36_code 133 = .ok (.aload_n 0, 1) := by decide +kernel
theorem d_M_serveReplay_134 : decode prog_10_method_36_code 134 = .ok (.getfield 58, 3) := by decide +kernel
theorem d_M_serveReplay_137 : decode prog_10_method_36_code 137 = .ok (.iconst 4, 1) := by decide +kernel
theorem d_M_serveReplay_138 : decode prog_10_method_36_code 138 = .ok (.iload_n 1, 1) := by decide +kernel
theorem d_M_serveReplay_139 : decode prog_10_method_36_code 139 = .ok (.imul, 1) := by decide +kernel
theorem d_M_serveReplay_140 : decode prog_10_method_36_code 140 = .ok (.iload 4, 2) := by decide +kernel
theorem d_M_serveReplay_142 : decode prog_10_method_36_code 142 = .ok (.iadd, 1) := by decide +kernel
theorem d_M_serveReplay_143 : decode prog_10_method_36_code 143 = .ok (.iaload, 1) := by decide +kernel
theorem d_M_serveReplay_144 : decode prog_10_method_36_code 144 = .ok (.iload_n 2, 1) := by decide +kernel
theorem d_M_serveReplay_145 : decode prog_10_method_36_code 145 = .ok (.if_icmp .ge 15, 3) := by decide +kernel
theorem d_M_serveReplay_148 : decode prog_10_method_36_code 148 = .ok (.aload_n 0, 1) := by decide +kernel
theorem d_M_serveReplay_149 : decode prog_10_method_36_code 149 = .ok (.getfield 58, 3) := by decide +kernel
theorem d_M_serveReplay_152 : decode prog_10_method_36_code 152 = .ok (.iconst 4, 1) := by decide +kernel
theorem d_M_serveReplay_153 : decode prog_10_method_36_code 153 = .ok (.iload_n 1, 1) := by decide +kernel
theorem d_M_serveReplay_154 : decode prog_10_method_36_code 154 = .ok (.imul, 1) := by decide +kernel
theorem d_M_serveReplay_155 : decode prog_10_method_36_code 155 = .ok (.iload 4, 2) := by decide +kernel
theorem d_M_serveReplay_157 : decode prog_10_method_36_code 157 = .ok (.iadd, 1) := by decide +kernel
theorem d_M_serveReplay_158 : decode prog_10_method_36_code 158 = .ok (.iload_n 2, 1) := by decide +kernel
theorem d_M_serveReplay_159 : decode prog_10_method_36_code 159 = .ok (.iastore, 1) := by decide +kernel
theorem d_M_serveReplay_160 : decode prog_10_method_36_code 160 = .ok (.iinc 4 1, 3) := by decide +kernel
theorem d_M_serveReplay_163 : decode prog_10_method_36_code 163 = .ok (.goto (-36), 3) := by decide +kernel
theorem d_M_serveReplay_166 : decode prog_10_method_36_code 166 = .ok (.aload_n 0, 1) := by decide +kernel
theorem d_M_serveReplay_167 : decode prog_10_method_36_code 167 = .ok (.iload_n 1, 1) := by decide +kernel
theorem d_M_serveReplay_168 : decode prog_10_method_36_code 168 = .ok (.invokevirtual 189, 3) := by decide +kernel
theorem d_M_serveReplay_171 : decode prog_10_method_36_code 171 = .ok (.iconst 2, 1) := by decide +kernel
theorem d_M_serveReplay_172 : decode prog_10_method_36_code 172 = .ok (.ireturn, 1) := by decide +kernel
theorem d_M_snapshotTurn_0 : decode prog_10_method_37_code 0 = .ok (.aload_n 0, 1) := by decide +kernel
theorem d_M_snapshotTurn_1 : decode prog_10_method_37_code 1 = .ok (.dup, 1) := by decide +kernel
theorem d_M_snapshotTurn_2 : decode prog_10_method_37_code 2 = .ok (.getfield 201, 3) := by decide +kernel
theorem d_M_snapshotTurn_5 : decode prog_10_method_37_code 5 = .ok (.iconst 1, 1) := by decide +kernel
theorem d_M_snapshotTurn_6 : decode prog_10_method_37_code 6 = .ok (.iadd, 1) := by decide +kernel
theorem d_M_snapshotTurn_7 : decode prog_10_method_37_code 7 = .ok (.putfield 201, 3) := by decide +kernel
theorem d_M_snapshotTurn_10 : decode prog_10_method_37_code 10 = .ok (.aload_n 0, 1) := by decide +kernel
theorem d_M_snapshotTurn_11 : decode prog_10_method_37_code 11 = .ok (.getfield 201, 3) := by decide +kernel
theorem d_M_snapshotTurn_14 : decode prog_10_method_37_code 14 = .ok (.iconst 1, 1) := by decide +kernel
theorem d_M_snapshotTurn_15 : decode prog_10_method_37_code 15 = .ok (.isub, 1) := by decide +kernel
theorem d_M_snapshotTurn_16 : decode prog_10_method_37_code 16 = .ok (.iconst 4, 1) := by decide +kernel
theorem d_M_snapshotTurn_17 : decode prog_10_method_37_code 17 = .ok (.irem, 1) := by decide +kernel
theorem d_M_snapshotTurn_18 : decode prog_10_method_37_code 18 = .ok (.istore_n 1, 1) := by decide +kernel
theorem d_M_snapshotTurn_19 : decode prog_10_method_37_code 19 = .ok (.aload_n 0, 1) := by decide +kernel
theorem d_M_snapshotTurn_20 : decode prog_10_method_37_code 20 = .ok (.getfield 80, 3) := by decide +kernel
theorem d_M_snapshotTurn_23 : decode prog_10_method_37_code 23 = .ok (.aload_n 0, 1) := by decide +kernel
theorem d_M_snapshotTurn_24 : decode prog_10_method_37_code 24 = .ok (.getfield 201, 3) := by decide +kernel
theorem d_M_snapshotTurn_27 : decode prog_10_method_37_code 27 = .ok (.iload_n 1, 1) := by decide +kernel
theorem d_M_snapshotTurn_28 : decode prog_10_method_37_code 28 = .ok (.iastore, 1) := by decide +kernel
theorem d_M_snapshotTurn_29 : decode prog_10_method_37_code 29 = .ok (.aload_n 0, 1) := by decide +kernel
theorem d_M_snapshotTurn_30 : decode prog_10_method_37_code 30 = .ok (.getfield 83, 3) := by decide +kernel
theorem d_M_snapshotTurn_33 : decode prog_10_method_37_code 33 = .ok (.aload_n 0, 1) := by decide +kernel
theorem d_M_snapshotTurn_34 : decode prog_10_method_37_code 34 = .ok (.getfield 201, 3) := by decide +kernel
theorem d_M_snapshotTurn_37 : decode prog_10_method_37_code 37 = .ok (.aload_n 0, 1) := by decide +kernel
theorem d_M_snapshotTurn_38 : decode prog_10_method_37_code 38 = .ok (.getfield 31, 3) := by decide +kernel
theorem d_M_snapshotTurn_41 : decode prog_10_method_37_code 41 = .ok (.iload_n 1, 1) := by decide +kernel
theorem d_M_snapshotTurn_42 : decode prog_10_method_37_code 42 = .ok (.iaload, 1) := by decide +kernel
theorem d_M_snapshotTurn_43 : decode prog_10_method_37_code 43 = .ok (.iastore, 1) := by decide +kernel
theorem d_M_snapshotTurn_44 : decode prog_10_method_37_code 44 = .ok (.aload_n 0, 1) := by decide +kernel
theorem d_M_snapshotTurn_45 : decode prog_10_method_37_code 45 = .ok (.getfield 86, 3) := by decide +kernel
theorem d_M_snapshotTurn_48 : decode prog_10_method_37_code 48 = .ok (.aload_n 0, 1) := by decide +kernel
theorem d_M_snapshotTurn_49 : decode prog_10_method_37_code 49 = .ok (.getfield 201, 3) := by decide +kernel
theorem d_M_snapshotTurn_52 : decode prog_10_method_37_code 52 = .ok (.aload_n 0, 1) := by decide +kernel
theorem d_M_snapshotTurn_53 : decode prog_10_method_37_code 53 = .ok (.getfield 148, 3) := by decide +kernel
theorem d_M_snapshotTurn_56 : decode prog_10_method_37_code 56 = .ok (.iastore, 1) := by decide +kernel
theorem d_M_snapshotTurn_57 : decode prog_10_method_37_code 57 = .ok (.aload_n 0, 1) := by decide +kernel
theorem d_M_snapshotTurn_58 : decode prog_10_method_37_code 58 = .ok (.getfield 201, 3) := by decide +kernel
theorem d_M_snapshotTurn_61 : decode prog_10_method_37_code 61 = .ok (.ireturn, 1) := by decide +kernel
theorem d_M_hearSnapshot_0 : decode prog_10_method_39_code 0 = .ok (.iload_n 2, 1) := by decide +kernel
theorem d_M_hearSnapshot_1 : decode prog_10_method_39_code 1 = .ok (.invokestatic 192, 3) := by decide +kernel
theorem d_M_hearSnapshot_4 : decode prog_10_method_39_code 4 = .ok (.ifCond .eq 27, 3) := by decide +kernel
theorem d_M_hearSnapshot_7 : decode prog_10_method_39_code 7 = .ok (.iload_n 1, 1) := by decide +kernel
theorem d_M_hearSnapshot_8 : decode prog_10_method_39_code 8 = .ok (.iconst 1, 1) := by decide +kernel
theorem d_M_hearSnapshot_9 : decode prog_10_method_39_code 9 = .ok (.if_icmp .lt 22, 3) := by decide +kernel
theorem d_M_hearSnapshot_12 : decode prog_10_method_39_code 12 = .ok (.iload_n 1, 1) := by decide +kernel
theorem d_M_hearSnapshot_13 : decode prog_10_method_39_code 13 = .ok (.aload_n 0, 1) := by decide +kernel
theorem d_M_hearSnapshot_14 : decode prog_10_method_39_code 14 = .ok (.getfield 201, 3) := by decide +kernel
theorem d_M_hearSnapshot_17 : decode prog_10_method_39_code 17 = .ok (.if_icmp .gt 14, 3) := by decide +kernel
theorem d_M_hearSnapshot_20 : decode prog_10_method_39_code 20 = .ok (.iload_n 1, 1) := by decide +kernel
theorem d_M_hearSnapshot_21 : decode prog_10_method_39_code 21 = .ok (.aload_n 0, 1) := by decide +kernel
theorem d_M_hearSnapshot_22 : decode prog_10_method_39_code 22 = .ok (.getfield 201, 3) := by decide +kernel
theorem d_M_hearSnapshot_25 : decode prog_10_method_39_code 25 = .ok (.bipush 8, 2) := by decide +kernel
theorem d_M_hearSnapshot_27 : decode prog_10_method_39_code 27 = .ok (.isub, 1) := by decide +kernel
theorem d_M_hearSnapshot_28 : decode prog_10_method_39_code 28 = .ok (.if_icmp .gt 6, 3) := by decide +kernel
theorem d_M_hearSnapshot_31 : decode prog_10_method_39_code 31 = .ok (.bipush (-2), 2) := by decide +kernel
theorem d_M_hearSnapshot_33 : decode prog_10_method_39_code 33 = .ok (.ireturn, 1) := by decide +kernel
theorem d_M_hearSnapshot_34 : decode prog_10_method_39_code 34 = .ok (.iload_n 3, 1) := by decide +kernel
theorem d_M_hearSnapshot_35 : decode prog_10_method_39_code 35 = .ok (.iconst 1, 1) := by decide +kernel
theorem d_M_hearSnapshot_36 : decode prog_10_method_39_code 36 = .ok (.aload_n 0, 1) := by decide +kernel
theorem d_M_hearSnapshot_37 : decode prog_10_method_39_code 37 = .ok (.iload_n 1, 1) := by decide +kernel
theorem d_M_hearSnapshot_38 : decode prog_10_method_39_code 38 = .ok (.invokevirtual 204, 3) := by decide +kernel
theorem d_M_hearSnapshot_41 : decode prog_10_method_39_code 41 = .ok (.invokestatic 101, 3) := by decide +kernel
theorem d_M_hearSnapshot_44 : decode prog_10_method_39_code 44 = .ok (.ifCond .eq 5, 3) := by decide +kernel
theorem d_M_hearSnapshot_47 : decode prog_10_method_39_code 47 = .ok (.iconst 0, 1) := by decide +kernel
theorem d_M_hearSnapshot_48 : decode prog_10_method_39_code 48 = .ok (.ireturn, 1) := by decide +kernel
theorem d_M_hearSnapshot_49 : decode prog_10_method_39_code 49 = .ok (.aload_n 0, 1) := by decide +kernel
theorem d_M_hearSnapshot_50 : decode prog_10_method_39_code 50 = .ok (.getfield 80, 3) := by decide +kernel
theorem d_M_hearSnapshot_53 : decode prog_10_method_39_code 53 = .ok (.iload_n 1, 1) := by decide +kernel
theorem d_M_hearSnapshot_54 : decode prog_10_method_39_code 54 = .ok (.iaload, 1) := by decide +kernel
theorem d_M_hearSnapshot_55 : decode prog_10_method_39_code 55 = .ok (.istore 4, 2) := by decide +kernel
theorem d_M_hearSnapshot_57 : decode prog_10_method_39_code 57 = .ok (.iconst 4, 1) := by decide +kernel
theorem d_M_hearSnapshot_58 : decode prog_10_method_39_code 58 = .ok (.iload_n 2, 1) := by decide +kernel
theorem d_M_hearSnapshot_59 : decode prog_10_method_39_code 59 = .ok (.imul, 1) := by decide +kernel
theorem d_M_hearSnapshot_60 : decode prog_10_method_39_code 60 = .ok (.iload 4, 2) := by decide +kernel
theorem d_M_hearSnapshot_62 : decode prog_10_method_39_code 62 = .ok (.iadd, 1) := by decide +kernel
theorem d_M_hearSnapshot_63 : decode prog_10_method_39_code 63 = .ok (.istore 5, 2) := by decide +kernel
theorem d_M_hearSnapshot_65 : decode prog_10_method_39_code 65 = .ok (.aload_n 0, 1) := by decide +kernel
theorem d_M_hearSnapshot_66 : decode prog_10_method_39_code 66 = .ok (.getfield 58, 3) := by decide +kernel
theorem d_M_hearSnapshot_69 : decode prog_10_method_39_code 69 = .ok (.iload 5, 2) := by decide +kernel
theorem d_M_hearSnapshot_71 : decode prog_10_method_39_code 71 = .ok (.iaload, 1) := by decide +kernel
theorem d_M_hearSnapshot_72 : decode prog_10_method_39_code 72 = .ok (.ifCond .le 23, 3) := by decide +kernel
theorem d_M_hearSnapshot_75 : decode prog_10_method_39_code 75 = .ok (.aload_n 0, 1) := by decide +kernel
theorem d_M_hearSnapshot_76 : decode prog_10_method_39_code 76 = .ok (.getfield 86, 3) := by decide +kernel
theorem d_M_hearSnapshot_79 : decode prog_10_method_39_code 79 = .ok (.iload_n 1, 1) := by decide +kernel
theorem d_M_hearSnapshot_80 : decode prog_10_method_39_code 80 = .ok (.iaload, 1) := by decide +kernel
theorem d_M_hearSnapshot_81 : decode prog_10_method_39_code 81 = .ok (.aload_n 0, 1) := by decide +kernel
theorem d_M_hearSnapshot_82 : decode prog_10_method_39_code 82 = .ok (.getfield 58, 3) := by decide +kernel
theorem d_M_hearSnapshot_85 : decode prog_10_method_39_code 85 = .ok (.iload 5, 2) := by decide +kernel
theorem d_M_hearSnapshot_87 : decode prog_10_method_39_code 87 = .ok (.iaload, 1) := by decide +kernel
theorem d_M_hearSnapshot_88 : decode prog_10_method_39_code 88 = .ok (.if_icmp .lt 7, 3) := by decide +kernel
theorem d_M_hearSnapshot_91 : decode prog_10_method_39_code 91 = .ok (.iconst 1, 1) := by decide +kernel
theorem d_M_hearSnapshot_92 : decode prog_10_method_39_code 92 = .ok (.goto 4, 3) := by decide +kernel
theorem d_M_hearSnapshot_95 : decode prog_10_method_39_code 95 = .ok (.iconst 0, 1) := by decide +kernel
theorem d_M_hearSnapshot_96 : decode prog_10_method_39_code 96 = .ok (.istore 6, 2) := by decide +kernel
theorem d_M_hearSnapshot_98 : decode prog_10_method_39_code 98 = .ok (.iload 6, 2) := by decide +kernel
theorem d_M_hearSnapshot_100 : decode prog_10_method_39_code 100 = .ok (.ifCond .eq 11, 3) := by decide +kernel
theorem d_M_hearSnapshot_103 : decode prog_10_method_39_code 103 = .ok (.aload_n 0, 1) := by decide +kernel
theorem d_M_hearSnapshot_104 : decode prog_10_method_39_code 104 = .ok (.getfield 58, 3) := by decide +kernel
theorem d_M_hearSnapshot_107 : decode prog_10_method_39_code 107 = .ok (.iload 5, 2) := by decide +kernel
theorem d_M_hearSnapshot_109 : decode prog_10_method_39_code 109 = .ok (.iconst 0, 1) := by decide +kernel
theorem d_M_hearSnapshot_110 : decode prog_10_method_39_code 110 = .ok (.iastore, 1) := by decide +kernel
theorem d_M_hearSnapshot_111 : decode prog_10_method_39_code 111 = .ok (.aload_n 0, 1) := by decide +kernel
theorem d_M_hearSnapshot_112 : decode prog_10_method_39_code 112 = .ok (.getfield 83, 3) := by decide +kernel
theorem d_M_hearSnapshot_115 : decode prog_10_method_39_code 115 = .ok (.iload_n 1, 1) := by decide +kernel
theorem d_M_hearSnapshot_116 : decode prog_10_method_39_code 116 = .ok (.iaload, 1) := by decide +kernel
theorem d_M_hearSnapshot_117 : decode prog_10_method_39_code 117 = .ok (.aload_n 0, 1) := by decide +kernel
theorem d_M_hearSnapshot_118 : decode prog_10_method_39_code 118 = .ok (.getfield 55, 3) := by decide +kernel
theorem d_M_hearSnapshot_121 : decode prog_10_method_39_code 121 = .ok (.iload 5, 2) := by decide +kernel
theorem d_M_hearSnapshot_123 : decode prog_10_method_39_code 123 = .ok (.iaload, 1) := by decide +kernel
theorem d_M_hearSnapshot_124 : decode prog_10_method_39_code 124 = .ok (.if_icmp .gt 14, 3) := by decide +kernel
theorem d_M_hearSnapshot_127 : decode prog_10_method_39_code 127 = .ok (.iload 6, 2) := by decide +kernel
theorem d_M_hearSnapshot_129 : decode prog_10_method_39_code 129 = .ok (.ifCond .eq 7, 3) := by decide +kernel
theorem d_M_hearSnapshot_132 : decode prog_10_method_39_code 132 = .ok (.iconst 2, 1) := by decide +kernel
theorem d_M_hearSnapshot_133 : decode prog_10_method_39_code 133 = .ok (.goto 4, 3) := by decide +kernel
theorem d_M_hearSnapshot_136 : decode prog_10_method_39_code 136 = .ok (.iconst 0, 1) := by decide +kernel
theorem d_M_hearSnapshot_137 : decode prog_10_method_39_code 137 = .ok (.ireturn, 1) := by decide +kernel
theorem d_M_hearSnapshot_138 : decode prog_10_method_39_code 138 = .ok (.aload_n 0, 1) := by decide +kernel
theorem d_M_hearSnapshot_139 : decode prog_10_method_39_code 139 = .ok (.getfield 55, 3) := by decide +kernel
theorem d_M_hearSnapshot_142 : decode prog_10_method_39_code 142 = .ok (.iload 5, 2) := by decide +kernel
theorem d_M_hearSnapshot_144 : decode prog_10_method_39_code 144 = .ok (.iaload, 1) := by decide +kernel
theorem d_M_hearSnapshot_145 : decode prog_10_method_39_code 145 = .ok (.iconst 1, 1) := by decide +kernel
theorem d_M_hearSnapshot_146 : decode prog_10_method_39_code 146 = .ok (.iadd, 1) := by decide +kernel
theorem d_M_hearSnapshot_147 : decode prog_10_method_39_code 147 = .ok (.istore 7, 2) := by decide +kernel
theorem d_M_hearSnapshot_149 : decode prog_10_method_39_code 149 = .ok (.iload 7, 2) := by decide +kernel
theorem d_M_hearSnapshot_151 : decode prog_10_method_39_code 151 = .ok (.aload_n 0, 1) := by decide +kernel
theorem d_M_hearSnapshot_152 : decode prog_10_method_39_code 152 = .ok (.getfield 83, 3) := by decide +kernel
theorem d_M_hearSnapshot_155 : decode prog_10_method_39_code 155 = .ok (.iload_n 1, 1) := by decide +kernel
theorem d_M_hearSnapshot_156 : decode prog_10_method_39_code 156 = .ok (.iaload, 1) := by decide +kernel
theorem d_M_hearSnapshot_157 : decode prog_10_method_39_code 157 = .ok (.if_icmp .gt 17, 3) := by decide +kernel
theorem d_M_hearSnapshot_160 : decode prog_10_method_39_code 160 = .ok (.aload_n 0, 1) := by decide +kernel
theorem d_M_hearSnapshot_161 : decode prog_10_method_39_code 161 = .ok (.iload 5, 2) := by decide +kernel
theorem d_M_hearSnapshot_163 : decode prog_10_method_39_code 163 = .ok (.iload 7, 2) := by decide +kernel
theorem d_M_hearSnapshot_165 : decode prog_10_method_39_code 165 = .ok (.invokevirtual 173, 3) := by decide +kernel
theorem d_M_hearSnapshot_168 : decode prog_10_method_39_code 168 = .ok (.iinc 7 1, 3) := by decide +kernel
theorem d_M_hearSnapshot_171 : decode prog_10_method_39_code 171 = .ok (.goto (-22), 3) := by decide +kernel
theorem d_M_hearSnapshot_174 : decode prog_10_method_39_code 174 = .ok (.aload_n 0, 1) := by decide +kernel
theorem d_M_hearSnapshot_175 : decode prog_10_method_39_code 175 = .ok (.iload_n 2, 1) := by decide +kernel
theorem d_M_hearSnapshot_176 : decode prog_10_method_39_code 176 = .ok (.iload 4, 2) := by decide +kernel
theorem d_M_hearSnapshot_178 : decode prog_10_method_39_code 178 = .ok (.aload_n 0, 1) := by decide +kernel
theorem d_M_hearSnapshot_179 : decode prog_10_method_39_code 179 = .ok (.getfield 83, 3) := by decide +kernel
theorem d_M_hearSnapshot_182 : decode prog_10_method_39_code 182 = .ok (.iload_n 1, 1) := by decide +kernel
theorem d_M_hearSnapshot_183 : decode prog_10_method_39_code 183 = .ok (.iaload, 1) := by decide +kernel
theorem d_M_hearSnapshot_184 : decode prog_10_method_39_code 184 = .ok (.invokevirtual 176, 3) := by decide +kernel
theorem d_M_hearSnapshot_187 : decode prog_10_method_39_code 187 = .ok (.aload_n 0, 1) := by decide +kernel
theorem d_M_hearSnapshot_188 : decode prog_10_method_39_code 188 = .ok (.iload_n 2, 1) := by decide +kernel
theorem d_M_hearSnapshot_189 : decode prog_10_method_39_code 189 = .ok (.iload 4, 2) := by decide +kernel
theorem d_M_hearSnapshot_191 : decode prog_10_method_39_code 191 = .ok (.invokevirtual 180, 3) := by decide +kernel
theorem d_M_hearSnapshot_194 : decode prog_10_method_39_code 194 = .ok (.iconst 1, 1) := by decide +kernel
theorem d_M_hearSnapshot_195 : decode prog_10_method_39_code 195 = .ok (.ireturn, 1) := by decide +kernel
theorem d_M_pieces_0 : decode prog_10_method_38_code 0 = .ok (.aload_n 0, 1) := by decide +kernel
theorem d_M_pieces_1 : decode prog_10_method_38_code 1 = .ok (.aload_n 0, 1) := by decide +kernel
theorem d_M_pieces_2 : decode prog_10_method_38_code 2 = .ok (.getfield 80, 3) := by decide +kernel
theorem d_M_pieces_5 : decode prog_10_method_38_code 5 = .ok (.iload_n 1, 1) := by decide +kernel
theorem d_M_pieces_6 : decode prog_10_method_38_code 6 = .ok (.iaload, 1) := by decide +kernel
theorem d_M_pieces_7 : decode prog_10_method_38_code 7 = .ok (.aload_n 0, 1) := by decide +kernel
theorem d_M_pieces_8 : decode prog_10_method_38_code 8 = .ok (.getfield 83, 3) := by decide +kernel
theorem d_M_pieces_11 : decode prog_10_method_38_code 11 = .ok (.iload_n 1, 1) := by decide +kernel
theorem d_M_pieces_12 : decode prog_10_method_38_code 12 = .ok (.iaload, 1) := by decide +kernel
theorem d_M_pieces_13 : decode prog_10_method_38_code 13 = .ok (.invokevirtual 144, 3) := by decide +kernel
theorem d_M_pieces_16 : decode prog_10_method_38_code 16 = .ok (.aload_n 0, 1) := by decide +kernel
theorem d_M_pieces_17 : decode prog_10_method_38_code 17 = .ok (.getfield 106, 3) := by decide +kernel
theorem d_M_pieces_20 : decode prog_10_method_38_code 20 = .ok (.ifCond .ne 7, 3) := by decide +kernel
theorem d_M_pieces_23 : decode prog_10_method_38_code 23 = .ok (.iconst 1, 1) := by decide +kernel
theorem d_M_pieces_24 : decode prog_10_method_38_code 24 = .ok (.goto 11, 3) := by decide +kernel
theorem d_M_pieces_27 : decode prog_10_method_38_code 27 = .ok (.aload_n 0, 1) := by decide +kernel
theorem d_M_pieces_28 : decode prog_10_method_38_code 28 = .ok (.getfield 106, 3) := by decide +kernel
theorem d_M_pieces_31 : decode prog_10_method_38_code 31 = .ok (.iconst 2, 1) := by decide +kernel
theorem d_M_pieces_32 : decode prog_10_method_38_code 32 = .ok (.iadd, 1) := by decide +kernel
theorem d_M_pieces_33 : decode prog_10_method_38_code 33 = .ok (.iconst 3, 1) := by decide +kernel
theorem d_M_pieces_34 : decode prog_10_method_38_code 34 = .ok (.idiv, 1) := by decide +kernel
theorem d_M_pieces_35 : decode prog_10_method_38_code 35 = .ok (.ireturn, 1) := by decide +kernel
theorem d_M_sound_0 : decode prog_10_method_40_code 0 = .ok (.iload_n 1, 1) := by decide +kernel
theorem d_M_sound_1 : decode prog_10_method_40_code 1 = .ok (.invokestatic 192, 3) := by decide +kernel
theorem d_M_sound_4 : decode prog_10_method_40_code 4 = .ok (.ifCond .eq 10, 3) := by decide +kernel
theorem d_M_sound_7 : decode prog_10_method_40_code 7 = .ok (.iload_n 2, 1) := by decide +kernel
theorem d_M_sound_8 : decode prog_10_method_40_code 8 = .ok (.invokestatic 151, 3) := by decide +kernel
theorem d_M_sound_11 : decode prog_10_method_40_code 11 = .ok (.ifCond .ne 6, 3) := by decide +kernel
theorem d_M_sound_14 : decode prog_10_method_40_code 14 = .ok (.bipush (-2), 2) := by decide +kernel
theorem d_M_sound_16 : decode prog_10_method_40_code 16 = .ok (.ireturn, 1) := by decide +kernel
theorem d_M_sound_17 : decode prog_10_method_40_code 17 = .ok (.aload_n 0, 1) := by decide +kernel
theorem d_M_sound_18 : decode prog_10_method_40_code 18 = .ok (.getfield 58, 3) := by decide +kernel
theorem d_M_sound_21 : decode prog_10_method_40_code 21 = .ok (.iconst 4, 1) := by decide +kernel
theorem d_M_sound_22 : decode prog_10_method_40_code 22 = .ok (.iload_n 1, 1) := by decide +kernel
theorem d_M_sound_23 : decode prog_10_method_40_code 23 = .ok (.imul, 1) := by decide +kernel
theorem d_M_sound_24 : decode prog_10_method_40_code 24 = .ok (.iload_n 2, 1) := by decide +kernel
theorem d_M_sound_25 : decode prog_10_method_40_code 25 = .ok (.iadd, 1) := by decide +kernel
theorem d_M_sound_26 : decode prog_10_method_40_code 26 = .ok (.iaload, 1) := by decide +kernel
theorem d_M_sound_27 : decode prog_10_method_40_code 27 = .ok (.ifCond .ne 22, 3) := by decide +kernel
theorem d_M_sound_30 : decode prog_10_method_40_code 30 = .ok (.aload_n 0, 1) := by decide +kernel
theorem d_M_sound_31 : decode prog_10_method_40_code 31 = .ok (.getfield 71, 3) := by decide +kernel
theorem d_M_sound_34 : decode prog_10_method_40_code 34 = .ok (.iload_n 1, 1) := by decide +kernel
theorem d_M_sound_35 : decode prog_10_method_40_code 35 = .ok (.iaload, 1) := by decide +kernel
theorem d_M_sound_36 : decode prog_10_method_40_code 36 = .ok (.aload_n 0, 1) := by decide +kernel
theorem d_M_sound_37 : decode prog_10_method_40_code 37 = .ok (.getfield 68, 3) := by decide +kernel
theorem d_M_sound_40 : decode prog_10_method_40_code 40 = .ok (.iload_n 1, 1) := by decide +kernel
theorem d_M_sound_41 : decode prog_10_method_40_code 41 = .ok (.iaload, 1) := by decide +kernel
theorem d_M_sound_42 : decode prog_10_method_40_code 42 = .ok (.if_icmp .ge 7, 3) := by decide +kernel
theorem d_M_sound_45 : decode prog_10_method_40_code 45 = .ok (.iconst 1, 1) := by decide +kernel
theorem d_M_sound_46 : decode prog_10_method_40_code 46 = .ok (.goto 4, 3) := by decide +kernel
theorem d_M_sound_49 : decode prog_10_method_40_code 49 = .ok (.iconst 0, 1) := by decide +kernel
theorem d_M_sound_50 : decode prog_10_method_40_code 50 = .ok (.ireturn, 1) := by decide +kernel
theorem d_M_at_0 : decode prog_10_method_43_code 0 = .ok (.iload_n 1, 1) := by decide +kernel
theorem d_M_at_1 : decode prog_10_method_43_code 1 = .ok (.iload_n 2, 1) := by decide +kernel
theorem d_M_at_2 : decode prog_10_method_43_code 2 = .ok (.invokestatic 207, 3) := by decide +kernel
theorem d_M_at_5 : decode prog_10_method_43_code 5 = .ok (.ifCond .eq 12, 3) := by decide +kernel
theorem d_M_at_8 : decode prog_10_method_43_code 8 = .ok (.aload_n 0, 1) := by decide +kernel
theorem d_M_at_9 : decode prog_10_method_43_code 9 = .ok (.iload_n 1, 1) := by decide +kernel
theorem d_M_at_10 : decode prog_10_method_43_code 10 = .ok (.iload_n 2, 1) := by decide +kernel
theorem d_M_at_11 : decode prog_10_method_43_code 11 = .ok (.invokevirtual 210, 3) := by decide +kernel
theorem d_M_at_14 : decode prog_10_method_43_code 14 = .ok (.goto 5, 3) := by decide +kernel
theorem d_M_at_17 : decode prog_10_method_43_code 17 = .ok (.bipush (-2), 2) := by decide +kernel
theorem d_M_at_19 : decode prog_10_method_43_code 19 = .ok (.ireturn, 1) := by decide +kernel
theorem d_M_isBook_0 : decode prog_10_method_41_code 0 = .ok (.iload_n 0, 1) := by decide +kernel
theorem d_M_isBook_1 : decode prog_10_method_41_code 1 = .ok (.iconst (-1), 1) := by decide +kernel
theorem d_M_isBook_2 : decode prog_10_method_41_code 2 = .ok (.iconst 1, 1) := by decide +kernel
theorem d_M_isBook_3 : decode prog_10_method_41_code 3 = .ok (.invokestatic 101, 3) := by decide +kernel
theorem d_M_isBook_6 : decode prog_10_method_41_code 6 = .ok (.ifCond .eq 14, 3) := by decide +kernel
theorem d_M_isBook_9 : decode prog_10_method_41_code 9 = .ok (.iload_n 1, 1) := by decide +kernel
theorem d_M_isBook_10 : decode prog_10_method_41_code 10 = .ok (.invokestatic 151, 3) := by decide +kernel
theorem d_M_isBook_13 : decode prog_10_method_41_code 13 = .ok (.ifCond .eq 7, 3) := by decide +kernel
theorem d_M_isBook_16 : decode prog_10_method_41_code 16 = .ok (.iconst 1, 1) := by decide +kernel
theorem d_M_isBook_17 : decode prog_10_method_41_code 17 = .ok (.goto 4, 3) := by decide +kernel
theorem d_M_isBook_20 : decode prog_10_method_41_code 20 = .ok (.iconst 0, 1) := by decide +kernel
theorem d_M_isBook_21 : decode prog_10_method_41_code 21 = .ok (.ireturn, 1) := by decide +kernel
theorem d_M_manyOf_0 : decode prog_10_method_42_code 0 = .ok (.iload_n 1, 1) := by decide +kernel
theorem d_M_manyOf_1 : decode prog_10_method_42_code 1 = .ok (.iconst (-1), 1) := by decide +kernel
theorem d_M_manyOf_2 : decode prog_10_method_42_code 2 = .ok (.if_icmp .ne 12, 3) := by decide +kernel
theorem d_M_manyOf_5 : decode prog_10_method_42_code 5 = .ok (.aload_n 0, 1) := by decide +kernel
theorem d_M_manyOf_6 : decode prog_10_method_42_code 6 = .ok (.getfield 31, 3) := by decide +kernel
theorem d_M_manyOf_9 : decode prog_10_method_42_code 9 = .ok (.iload_n 2, 1) := by decide +kernel
theorem d_M_manyOf_10 : decode prog_10_method_42_code 10 = .ok (.iaload, 1) := by decide +kernel
theorem d_M_manyOf_11 : decode prog_10_method_42_code 11 = .ok (.goto 13, 3) := by decide +kernel
theorem d_M_manyOf_14 : decode prog_10_method_42_code 14 = .ok (.aload_n 0, 1) := by decide +kernel
theorem d_M_manyOf_15 : decode prog_10_method_42_code 15 = .ok (.getfield 55, 3) := by decide +kernel
theorem d_M_manyOf_18 : decode prog_10_method_42_code 18 = .ok (.iconst 4, 1) := by decide +kernel
theorem d_M_manyOf_19 : decode prog_10_method_42_code 19 = .ok (.iload_n 1, 1) := by decide +kernel
theorem d_M_manyOf_20 : decode prog_10_method_42_code 20 = .ok (.imul, 1) := by decide +kernel
theorem d_M_manyOf_21 : decode prog_10_method_42_code 21 = .ok (.iload_n 2, 1) := by decide +kernel
theorem d_M_manyOf_22 : decode prog_10_method_42_code 22 = .ok (.iadd, 1) := by decide +kernel
theorem d_M_manyOf_23 : decode prog_10_method_42_code 23 = .ok (.iaload, 1) := by decide +kernel
theorem d_M_manyOf_24 : decode prog_10_method_42_code 24 = .ok (.ireturn, 1) := by decide +kernel
theorem d_M_receiver_0 : decode prog_10_method_44_code 0 = .ok (.iload_n 1, 1) := by decide +kernel
theorem d_M_receiver_1 : decode prog_10_method_44_code 1 = .ok (.invokestatic 192, 3) := by decide +kernel
theorem d_M_receiver_4 : decode prog_10_method_44_code 4 = .ok (.ifCond .eq 12, 3) := by decide +kernel
theorem d_M_receiver_7 : decode prog_10_method_44_code 7 = .ok (.iload_n 2, 1) := by decide +kernel
theorem d_M_receiver_8 : decode prog_10_method_44_code 8 = .ok (.iconst 0, 1) := by decide +kernel
theorem d_M_receiver_9 : decode prog_10_method_44_code 9 = .ok (.iconst 3, 1) := by decide +kernel
theorem d_M_receiver_10 : decode prog_10_method_44_code 10 = .ok (.invokestatic 101, 3) := by decide +kernel
theorem d_M_receiver_13 : decode prog_10_method_44_code 13 = .ok (.ifCond .ne 6, 3) := by decide +kernel
theorem d_M_receiver_16 : decode prog_10_method_44_code 16 = .ok (.bipush (-2), 2) := by decide +kernel
theorem d_M_receiver_18 : decode prog_10_method_44_code 18 = .ok (.ireturn, 1) := by decide +kernel
theorem d_M_receiver_19 : decode prog_10_method_44_code 19 = .ok (.iload_n 2, 1) := by decide +kernel
theorem d_M_receiver_20 : decode prog_10_method_44_code 20 = .ok (.ifCond .ne 10, 3) := by decide +kernel
theorem d_M_receiver_23 : decode prog_10_method_44_code 23 = .ok (.aload_n 0, 1) := by decide +kernel
theorem d_M_receiver_24 : decode prog_10_method_44_code 24 = .ok (.getfield 68, 3) := by decide +kernel
theorem d_M_receiver_27 : decode prog_10_method_44_code 27 = .ok (.iload_n 1, 1) := by decide +kernel
theorem d_M_receiver_28 : decode prog_10_method_44_code 28 = .ok (.iaload, 1) := by decide +kernel
theorem d_M_receiver_29 : decode prog_10_method_44_code 29 = .ok (.ireturn, 1) := by decide +kernel
theorem d_M_receiver_30 : decode prog_10_method_44_code 30 = .ok (.iload_n 2, 1) := by decide +kernel
theorem d_M_receiver_31 : decode prog_10_method_44_code 31 = .ok (.iconst 1, 1) := by decide +kernel
theorem d_M_receiver_32 : decode prog_10_method_44_code 32 = .ok (.if_icmp .ne 10, 3) := by decide +kernel
theorem d_M_receiver_35 : decode prog_10_method_44_code 35 = .ok (.aload_n 0, 1) := by decide +kernel
theorem d_M_receiver_36 : decode prog_10_method_44_code 36 = .ok (.getfield 71, 3) := by decide +kernel
theorem d_M_receiver_39 : decode prog_10_method_44_code 39 = .ok (.iload_n 1, 1) := by decide +kernel
theorem d_M_receiver_40 : decode prog_10_method_44_code 40 = .ok (.iaload, 1) := by decide +kernel
theorem d_M_receiver_41 : decode prog_10_method_44_code 41 = .ok (.ireturn, 1) := by decide +kernel
theorem d_M_receiver_42 : decode prog_10_method_44_code 42 = .ok (.iconst 0, 1) := by decide +kernel
theorem d_M_receiver_43 : decode prog_10_method_44_code 43 = .ok (.istore_n 3, 1) := by decide +kernel
theorem d_M_receiver_44 : decode prog_10_method_44_code 44 = .ok (.iload_n 2, 1) := by decide +kernel
theorem d_M_receiver_45 : decode prog_10_method_44_code 45 = .ok (.iconst 2, 1) := by decide +kernel
theorem d_M_receiver_46 : decode prog_10_method_44_code 46 = .ok (.if_icmp .ne 40, 3) := by decide +kernel
theorem d_M_receiver_49 : decode prog_10_method_44_code 49 = .ok (.iconst 1, 1) := by decide +kernel
theorem d_M_receiver_50 : decode prog_10_method_44_code 50 = .ok (.istore 4, 2) := by decide +kernel
theorem d_M_receiver_52 : decode prog_10_method_44_code 52 = .ok (.iload 4, 2) := by decide +kernel
theorem d_M_receiver_54 : decode prog_10_method_44_code 54 = .ok (.aload_n 0, 1) := by decide +kernel
theorem d_M_receiver_55 : decode prog_10_method_44_code 55 = .ok (.getfield 148, 3) := by decide +kernel
theorem d_M_receiver_58 : decode prog_10_method_44_code 58 = .ok (.if_icmp .gt 28, 3) := by decide +kernel
theorem d_M_receiver_61 : decode prog_10_method_44_code 61 = .ok (.aload_n 0, 1) := by decide +kernel
theorem d_M_receiver_62 : decode prog_10_method_44_code 62 = .ok (.getfield 74, 3) := by decide +kernel
theorem d_M_receiver_65 : decode prog_10_method_44_code 65 = .ok (.sipush 402, 3) := by decide +kernel
theorem d_M_receiver_68 : decode prog_10_method_44_code 68 = .ok (.iload_n 1, 1) := by decide +kernel
theorem d_M_receiver_69 : decode prog_10_method_44_code 69 = .ok (.imul, 1) := by decide +kernel
theorem d_M_receiver_70 : decode prog_10_method_44_code 70 = .ok (.iload 4, 2) := by decide +kernel
theorem d_M_receiver_72 : decode prog_10_method_44_code 72 = .ok (.iadd, 1) := by decide +kernel
theorem d_M_receiver_73 : decode prog_10_method_44_code 73 = .ok (.baload, 1) := by decide +kernel
theorem d_M_receiver_74 : decode prog_10_method_44_code 74 = .ok (.ifCond .eq 6, 3) := by decide +kernel
theorem d_M_receiver_77 : decode prog_10_method_44_code 77 = .ok (.iinc 3 1, 3) := by decide +kernel
theorem d_M_receiver_80 : decode prog_10_method_44_code 80 = .ok (.iinc 4 1, 3) := by decide +kernel
theorem d_M_receiver_83 : decode prog_10_method_44_code 83 = .ok (.goto (-31), 3) := by decide +kernel
theorem d_M_receiver_86 : decode prog_10_method_44_code 86 = .ok (.iload_n 2, 1) := by decide +kernel
theorem d_M_receiver_87 : decode prog_10_method_44_code 87 = .ok (.iconst 3, 1) := by decide +kernel
theorem d_M_receiver_88 : decode prog_10_method_44_code 88 = .ok (.if_icmp .ne 32, 3) := by decide +kernel
theorem d_M_receiver_91 : decode prog_10_method_44_code 91 = .ok (.iconst 0, 1) := by decide +kernel
theorem d_M_receiver_92 : decode prog_10_method_44_code 92 = .ok (.istore 4, 2) := by decide +kernel
theorem d_M_receiver_94 : decode prog_10_method_44_code 94 = .ok (.iload 4, 2) := by decide +kernel
theorem d_M_receiver_96 : decode prog_10_method_44_code 96 = .ok (.iconst 4, 1) := by decide +kernel
theorem d_M_receiver_97 : decode prog_10_method_44_code 97 = .ok (.if_icmp .ge 23, 3) := by decide +kernel
theorem d_M_receiver_100 : decode prog_10_method_44_code 100 = .ok (.iload_n 3, 1) := by decide +kernel
theorem d_M_receiver_101 : decode prog_10_method_44_code 101 = .ok (.aload_n 0, 1) := by decide +kernel
theorem d_M_receiver_102 : decode prog_10_method_44_code 102 = .ok (.getfield 65, 3) := by decide +kernel
theorem d_M_receiver_105 : decode prog_10_method_44_code 105 = .ok (.iconst 4, 1) := by decide +kernel
theorem d_M_receiver_106 : decode prog_10_method_44_code 106 = .ok (.iload_n 1, 1) := by decide +kernel
theorem d_M_receiver_107 : decode prog_10_method_44_code 107 = .ok (.imul, 1) := by decide +kernel
theorem d_M_receiver_108 : decode prog_10_method_44_code 108 = .ok (.iload 4, 2) := by decide +kernel
theorem d_M_receiver_110 : decode prog_10_method_44_code 110 = .ok (.iadd, 1) := by decide +kernel
theorem d_M_receiver_111 : decode prog_10_method_44_code 111 = .ok (.iaload, 1) := by decide +kernel
theorem d_M_receiver_112 : decode prog_10_method_44_code 112 = .ok (.iadd, 1) := by decide +kernel
theorem d_M_receiver_113 : decode prog_10_method_44_code 113 = .ok (.istore_n 3, 1) := by decide +kernel
theorem d_M_receiver_114 : decode prog_10_method_44_code 114 = .ok (.iinc 4 1, 3) := by decide +kernel
theorem d_M_receiver_117 : decode prog_10_method_44_code 117 = .ok (.goto (-23), 3) := by decide +kernel
theorem d_M_receiver_120 : decode prog_10_method_44_code 120 = .ok (.iload_n 3, 1) := by decide +kernel
theorem d_M_receiver_121 : decode prog_10_method_44_code 121 = .ok (.ireturn, 1) := by decide +kernel
theorem d_M_best_0 : decode prog_10_method_45_code 0 = .ok (.iload_n 1, 1) := by decide +kernel
theorem d_M_best_1 : decode prog_10_method_45_code 1 = .ok (.iload_n 2, 1) := by decide +kernel
theorem d_M_best_2 : decode prog_10_method_45_code 2 = .ok (.invokestatic 207, 3) := by decide +kernel
theorem d_M_best_5 : decode prog_10_method_45_code 5 = .ok (.ifCond .eq 27, 3) := by decide +kernel
theorem d_M_best_8 : decode prog_10_method_45_code 8 = .ok (.iload_n 3, 1) := by decide +kernel
theorem d_M_best_9 : decode prog_10_method_45_code 9 = .ok (.iconst 0, 1) := by decide +kernel
theorem d_M_best_10 : decode prog_10_method_45_code 10 = .ok (.iconst 1, 1) := by decide +kernel
theorem d_M_best_11 : decode prog_10_method_45_code 11 = .ok (.invokestatic 101, 3) := by decide +kernel
theorem d_M_best_14 : decode prog_10_method_45_code 14 = .ok (.ifCond .eq 18, 3) := by decide +kernel
theorem d_M_best_17 : decode prog_10_method_45_code 17 = .ok (.iload 4, 2) := by decide +kernel
theorem d_M_best_19 : decode prog_10_method_45_code 19 = .ok (.ifCond .lt 13, 3) := by decide +kernel
theorem d_M_best_22 : decode prog_10_method_45_code 22 = .ok (.iload 5, 2) := by decide +kernel
theorem d_M_best_24 : decode prog_10_method_45_code 24 = .ok (.iconst 0, 1) := by decide +kernel
theorem d_M_best_25 : decode prog_10_method_45_code 25 = .ok (.iconst 2, 1) := by decide +kernel
theorem d_M_best_26 : decode prog_10_method_45_code 26 = .ok (.invokestatic 101, 3) := by decide +kernel
theorem d_M_best_29 : decode prog_10_method_45_code 29 = .ok (.ifCond .ne 6, 3) := by decide +kernel
theorem d_M_best_32 : decode prog_10_method_45_code 32 = .ok (.ldc 213, 2) := by decide +kernel
theorem d_M_best_34 : decode prog_10_method_45_code 34 = .ok (.ireturn, 1) := by decide +kernel
theorem d_M_best_35 : decode prog_10_method_45_code 35 = .ok (.aload_n 0, 1) := by decide +kernel
theorem d_M_best_36 : decode prog_10_method_45_code 36 = .ok (.iload_n 2, 1) := by decide +kernel
theorem d_M_best_37 : decode prog_10_method_45_code 37 = .ok (.aload_n 0, 1) := by decide +kernel
theorem d_M_best_38 : decode prog_10_method_45_code 38 = .ok (.iload_n 1, 1) := by decide +kernel
theorem d_M_best_39 : decode prog_10_method_45_code 39 = .ok (.iload_n 2, 1) := by decide +kernel
theorem d_M_best_40 : decode prog_10_method_45_code 40 = .ok (.invokevirtual 210, 3) := by decide +kernel
theorem d_M_best_43 : decode prog_10_method_45_code 43 = .ok (.invokevirtual 144, 3) := by decide +kernel
theorem d_M_best_46 : decode prog_10_method_45_code 46 = .ok (.aload_n 0, 1) := by decide +kernel
theorem d_M_best_47 : decode prog_10_method_45_code 47 = .ok (.iload_n 3, 1) := by decide +kernel
theorem d_M_best_48 : decode prog_10_method_45_code 48 = .ok (.iload 4, 2) := by decide +kernel
theorem d_M_best_50 : decode prog_10_method_45_code 50 = .ok (.iload 5, 2) := by decide +kernel
theorem d_M_best_52 : decode prog_10_method_45_code 52 = .ok (.invokevirtual 140, 3) := by decide +kernel
theorem d_M_best_55 : decode prog_10_method_45_code 55 = .ok (.ireturn, 1) := by decide +kernel
theorem d_M_order_0 : decode prog_10_method_46_code 0 = .ok (.iload_n 1, 1) := by decide +kernel
theorem d_M_order_1 : decode prog_10_method_46_code 1 = .ok (.iload_n 2, 1) := by decide +kernel
theorem d_M_order_2 : decode prog_10_method_46_code 2 = .ok (.invokestatic 207, 3) := by decide +kernel
theorem d_M_order_5 : decode prog_10_method_46_code 5 = .ok (.ifCond .eq 23, 3) := by decide +kernel
theorem d_M_order_8 : decode prog_10_method_46_code 8 = .ok (.iload_n 3, 1) := by decide +kernel
theorem d_M_order_9 : decode prog_10_method_46_code 9 = .ok (.iconst 0, 1) := by decide +kernel
theorem d_M_order_10 : decode prog_10_method_46_code 10 = .ok (.iconst 1, 1) := by decide +kernel
theorem d_M_order_11 : decode prog_10_method_46_code 11 = .ok (.invokestatic 101, 3) := by decide +kernel
theorem d_M_order_14 : decode prog_10_method_46_code 14 = .ok (.ifCond .eq 14, 3) := by decide +kernel
theorem d_M_order_17 : decode prog_10_method_46_code 17 = .ok (.iload 4, 2) := by decide +kernel
theorem d_M_order_19 : decode prog_10_method_46_code 19 = .ok (.iconst 0, 1) := by decide +kernel
theorem d_M_order_20 : decode prog_10_method_46_code 20 = .ok (.bipush 23, 2) := by decide +kernel
theorem d_M_order_22 : decode prog_10_method_46_code 22 = .ok (.invokestatic 101, 3) := by decide +kernel
theorem d_M_order_25 : decode prog_10_method_46_code 25 = .ok (.ifCond .ne 6, 3) := by decide +kernel
theorem d_M_order_28 : decode prog_10_method_46_code 28 = .ok (.bipush (-2), 2) := by decide +kernel
theorem d_M_order_30 : decode prog_10_method_46_code 30 = .ok (.ireturn, 1) := by decide +kernel
theorem d_M_order_31 : decode prog_10_method_46_code 31 = .ok (.aload_n 0, 1) := by decide +kernel
theorem d_M_order_32 : decode prog_10_method_46_code 32 = .ok (.iload_n 2, 1) := by decide +kernel
theorem d_M_order_33 : decode prog_10_method_46_code 33 = .ok (.aload_n 0, 1) := by decide +kernel
theorem d_M_order_34 : decode prog_10_method_46_code 34 = .ok (.iload_n 1, 1) := by decide +kernel
theorem d_M_order_35 : decode prog_10_method_46_code 35 = .ok (.iload_n 2, 1) := by decide +kernel
theorem d_M_order_36 : decode prog_10_method_46_code 36 = .ok (.invokevirtual 210, 3) := by decide +kernel
theorem d_M_order_39 : decode prog_10_method_46_code 39 = .ok (.invokevirtual 144, 3) := by decide +kernel
theorem d_M_order_42 : decode prog_10_method_46_code 42 = .ok (.aload_n 0, 1) := by decide +kernel
theorem d_M_order_43 : decode prog_10_method_46_code 43 = .ok (.iload_n 3, 1) := by decide +kernel
theorem d_M_order_44 : decode prog_10_method_46_code 44 = .ok (.iload 4, 2) := by decide +kernel
theorem d_M_order_46 : decode prog_10_method_46_code 46 = .ok (.invokevirtual 132, 3) := by decide +kernel
theorem d_M_order_49 : decode prog_10_method_46_code 49 = .ok (.istore 5, 2) := by decide +kernel
theorem d_M_order_51 : decode prog_10_method_46_code 51 = .ok (.iload 5, 2) := by decide +kernel
theorem d_M_order_53 : decode prog_10_method_46_code 53 = .ok (.ifCond .ge 7, 3) := by decide +kernel
theorem d_M_order_56 : decode prog_10_method_46_code 56 = .ok (.iconst (-1), 1) := by decide +kernel
theorem d_M_order_57 : decode prog_10_method_46_code 57 = .ok (.goto 10, 3) := by decide +kernel
theorem d_M_order_60 : decode prog_10_method_46_code 60 = .ok (.aload_n 0, 1) := by decide +kernel
theorem d_M_order_61 : decode prog_10_method_46_code 61 = .ok (.getfield 37, 3) := by decide +kernel
theorem d_M_order_64 : decode prog_10_method_46_code 64 = .ok (.iload 5, 2) := by decide +kernel
theorem d_M_order_66 : decode prog_10_method_46_code 66 = .ok (.iaload, 1) := by decide +kernel
theorem d_M_order_67 : decode prog_10_method_46_code 67 = .ok (.ireturn, 1) := by decide +kernel
theorem d_M_halted_0 : decode prog_10_method_47_code 0 = .ok (.iload_n 1, 1) := by decide +kernel
theorem d_M_halted_1 : decode prog_10_method_47_code 1 = .ok (.iload_n 2, 1) := by decide +kernel
theorem d_M_halted_2 : decode prog_10_method_47_code 2 = .ok (.invokestatic 207, 3) := by decide +kernel
theorem d_M_halted_5 : decode prog_10_method_47_code 5 = .ok (.ifCond .ne 6, 3) := by decide +kernel
theorem d_M_halted_8 : decode prog_10_method_47_code 8 = .ok (.bipush (-2), 2) := by decide +kernel
theorem d_M_halted_10 : decode prog_10_method_47_code 10 = .ok (.ireturn, 1) := by decide +kernel
theorem d_M_halted_11 : decode prog_10_method_47_code 11 = .ok (.aload_n 0, 1) := by decide +kernel
theorem d_M_halted_12 : decode prog_10_method_47_code 12 = .ok (.iload_n 2, 1) := by decide +kernel
theorem d_M_halted_13 : decode prog_10_method_47_code 13 = .ok (.aload_n 0, 1) := by decide +kernel
theorem d_M_halted_14 : decode prog_10_method_47_code 14 = .ok (.iload_n 1, 1) := by decide +kernel
theorem d_M_halted_15 : decode prog_10_method_47_code 15 = .ok (.iload_n 2, 1) := by decide +kernel
theorem d_M_halted_16 : decode prog_10_method_47_code 16 = .ok (.invokevirtual 210, 3) := by decide +kernel
theorem d_M_halted_19 : decode prog_10_method_47_code 19 = .ok (.invokevirtual 144, 3) := by decide +kernel
theorem d_M_halted_22 : decode prog_10_method_47_code 22 = .ok (.aload_n 0, 1) := by decide +kernel
theorem d_M_halted_23 : decode prog_10_method_47_code 23 = .ok (.getfield 118, 3) := by decide +kernel
theorem d_M_halted_26 : decode prog_10_method_47_code 26 = .ok (.ifCond .eq 7, 3) := by decide +kernel
theorem d_M_halted_29 : decode prog_10_method_47_code 29 = .ok (.iconst 1, 1) := by decide +kernel
theorem d_M_halted_30 : decode prog_10_method_47_code 30 = .ok (.goto 4, 3) := by decide +kernel
theorem d_M_halted_33 : decode prog_10_method_47_code 33 = .ok (.iconst 0, 1) := by decide +kernel
theorem d_M_halted_34 : decode prog_10_method_47_code 34 = .ok (.ireturn, 1) := by decide +kernel
theorem d_M_dirty_0 : decode prog_10_method_48_code 0 = .ok (.iload_n 1, 1) := by decide +kernel
theorem d_M_dirty_1 : decode prog_10_method_48_code 1 = .ok (.invokestatic 192, 3) := by decide +kernel
theorem d_M_dirty_4 : decode prog_10_method_48_code 4 = .ok (.ifCond .eq 12, 3) := by decide +kernel
theorem d_M_dirty_7 : decode prog_10_method_48_code 7 = .ok (.aload_n 0, 1) := by decide +kernel
theorem d_M_dirty_8 : decode prog_10_method_48_code 8 = .ok (.getfield 92, 3) := by decide +kernel
theorem d_M_dirty_11 : decode prog_10_method_48_code 11 = .ok (.iload_n 1, 1) := by decide +kernel
theorem d_M_dirty_12 : decode prog_10_method_48_code 12 = .ok (.iaload, 1) := by decide +kernel
theorem d_M_dirty_13 : decode prog_10_method_48_code 13 = .ok (.goto 5, 3) := by decide +kernel
theorem d_M_dirty_16 : decode prog_10_method_48_code 16 = .ok (.bipush (-2), 2) := by decide +kernel
theorem d_M_dirty_18 : decode prog_10_method_48_code 18 = .ok (.ireturn, 1) := by decide +kernel
