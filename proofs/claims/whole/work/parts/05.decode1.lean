/-! the instructions (by program, from the listing) -/
theorem d_P_byteOfPacket_0 : decode prog_4_method_8_code 0 = .ok (.aload_n 0, 1) := by decide +kernel
theorem d_P_byteOfPacket_1 : decode prog_4_method_8_code 1 = .ok (.iload_n 1, 1) := by decide +kernel
theorem d_P_byteOfPacket_2 : decode prog_4_method_8_code 2 = .ok (.invokevirtual 69, 3) := by decide +kernel
theorem d_P_byteOfPacket_5 : decode prog_4_method_8_code 5 = .ok (.ifCond .eq 7, 3) := by decide +kernel
theorem d_P_byteOfPacket_8 : decode prog_4_method_8_code 8 = .ok (.iload_n 2, 1) := by decide +kernel
theorem d_P_byteOfPacket_9 : decode prog_4_method_8_code 9 = .ok (.ifCond .ge 5, 3) := by decide +kernel
theorem d_P_byteOfPacket_12 : decode prog_4_method_8_code 12 = .ok (.iconst (-1), 1) := by decide +kernel
theorem d_P_byteOfPacket_13 : decode prog_4_method_8_code 13 = .ok (.ireturn, 1) := by decide +kernel
theorem d_P_byteOfPacket_14 : decode prog_4_method_8_code 14 = .ok (.iload_n 2, 1) := by decide +kernel
theorem d_P_byteOfPacket_15 : decode prog_4_method_8_code 15 = .ok (.iconst 4, 1) := by decide +kernel
theorem d_P_byteOfPacket_16 : decode prog_4_method_8_code 16 = .ok (.if_icmp .ge 9, 3) := by decide +kernel
theorem d_P_byteOfPacket_19 : decode prog_4_method_8_code 19 = .ok (.iload_n 1, 1) := by decide +kernel
theorem d_P_byteOfPacket_20 : decode prog_4_method_8_code 20 = .ok (.iload_n 2, 1) := by decide +kernel
theorem d_P_byteOfPacket_21 : decode prog_4_method_8_code 21 = .ok (.invokestatic 73, 3) := by decide +kernel
theorem d_P_byteOfPacket_24 : decode prog_4_method_8_code 24 = .ok (.ireturn, 1) := by decide +kernel
theorem d_P_byteOfPacket_25 : decode prog_4_method_8_code 25 = .ok (.iload_n 2, 1) := by decide +kernel
theorem d_P_byteOfPacket_26 : decode prog_4_method_8_code 26 = .ok (.iconst 5, 1) := by decide +kernel
theorem d_P_byteOfPacket_27 : decode prog_4_method_8_code 27 = .ok (.if_icmp .ge 15, 3) := by decide +kernel
theorem d_P_byteOfPacket_30 : decode prog_4_method_8_code 30 = .ok (.aload_n 0, 1) := by decide +kernel
theorem d_P_byteOfPacket_31 : decode prog_4_method_8_code 31 = .ok (.iload_n 1, 1) := by decide +kernel
theorem d_P_byteOfPacket_32 : decode prog_4_method_8_code 32 = .ok (.invokevirtual 66, 3) := by decide +kernel
theorem d_P_byteOfPacket_35 : decode prog_4_method_8_code 35 = .ok (.aload_n 0, 1) := by decide +kernel
theorem d_P_byteOfPacket_36 : decode prog_4_method_8_code 36 = .ok (.iload_n 1, 1) := by decide +kernel
theorem d_P_byteOfPacket_37 : decode prog_4_method_8_code 37 = .ok (.invokevirtual 62, 3) := by decide +kernel
theorem d_P_byteOfPacket_40 : decode prog_4_method_8_code 40 = .ok (.isub, 1) := by decide +kernel
theorem d_P_byteOfPacket_41 : decode prog_4_method_8_code 41 = .ok (.ireturn, 1) := by decide +kernel
theorem d_P_byteOfPacket_42 : decode prog_4_method_8_code 42 = .ok (.aload_n 0, 1) := by decide +kernel
theorem d_P_byteOfPacket_43 : decode prog_4_method_8_code 43 = .ok (.iload_n 1, 1) := by decide +kernel
theorem d_P_byteOfPacket_44 : decode prog_4_method_8_code 44 = .ok (.invokevirtual 62, 3) := by decide +kernel
theorem d_P_byteOfPacket_47 : decode prog_4_method_8_code 47 = .ok (.iload_n 2, 1) := by decide +kernel
theorem d_P_byteOfPacket_48 : decode prog_4_method_8_code 48 = .ok (.iconst 5, 1) := by decide +kernel
theorem d_P_byteOfPacket_49 : decode prog_4_method_8_code 49 = .ok (.isub, 1) := by decide +kernel
theorem d_P_byteOfPacket_50 : decode prog_4_method_8_code 50 = .ok (.bipush 19, 2) := by decide +kernel
theorem d_P_byteOfPacket_52 : decode prog_4_method_8_code 52 = .ok (.idiv, 1) := by decide +kernel
theorem d_P_byteOfPacket_53 : decode prog_4_method_8_code 53 = .ok (.iadd, 1) := by decide +kernel
theorem d_P_byteOfPacket_54 : decode prog_4_method_8_code 54 = .ok (.istore_n 3, 1) := by decide +kernel
theorem d_P_byteOfPacket_55 : decode prog_4_method_8_code 55 = .ok (.iload_n 3, 1) := by decide +kernel
theorem d_P_byteOfPacket_56 : decode prog_4_method_8_code 56 = .ok (.aload_n 0, 1) := by decide +kernel
theorem d_P_byteOfPacket_57 : decode prog_4_method_8_code 57 = .ok (.iload_n 1, 1) := by decide +kernel
theorem d_P_byteOfPacket_58 : decode prog_4_method_8_code 58 = .ok (.invokevirtual 66, 3) := by decide +kernel
theorem d_P_byteOfPacket_61 : decode prog_4_method_8_code 61 = .ok (.if_icmp .ge 12, 3) := by decide +kernel
theorem d_P_byteOfPacket_64 : decode prog_4_method_8_code 64 = .ok (.aload_n 0, 1) := by decide +kernel
theorem d_P_byteOfPacket_65 : decode prog_4_method_8_code 65 = .ok (.getfield 19, 3) := by decide +kernel
theorem d_P_byteOfPacket_68 : decode prog_4_method_8_code 68 = .ok (.iload_n 3, 1) := by decide +kernel
theorem d_P_byteOfPacket_69 : decode prog_4_method_8_code 69 = .ok (.aaload, 1) := by decide +kernel
theorem d_P_byteOfPacket_70 : decode prog_4_method_8_code 70 = .ok (.ifnonnull 5, 3) := by decide +kernel
theorem d_P_byteOfPacket_73 : decode prog_4_method_8_code 73 = .ok (.iconst (-1), 1) := by decide +kernel
theorem d_P_byteOfPacket_74 : decode prog_4_method_8_code 74 = .ok (.ireturn, 1) := by decide +kernel
theorem d_P_byteOfPacket_75 : decode prog_4_method_8_code 75 = .ok (.aload_n 0, 1) := by decide +kernel
theorem d_P_byteOfPacket_76 : decode prog_4_method_8_code 76 = .ok (.getfield 19, 3) := by decide +kernel
theorem d_P_byteOfPacket_79 : decode prog_4_method_8_code 79 = .ok (.iload_n 3, 1) := by decide +kernel
theorem d_P_byteOfPacket_80 : decode prog_4_method_8_code 80 = .ok (.aaload, 1) := by decide +kernel
theorem d_P_byteOfPacket_81 : decode prog_4_method_8_code 81 = .ok (.iload_n 2, 1) := by decide +kernel
theorem d_P_byteOfPacket_82 : decode prog_4_method_8_code 82 = .ok (.iconst 5, 1) := by decide +kernel
theorem d_P_byteOfPacket_83 : decode prog_4_method_8_code 83 = .ok (.isub, 1) := by decide +kernel
theorem d_P_byteOfPacket_84 : decode prog_4_method_8_code 84 = .ok (.bipush 19, 2) := by decide +kernel
theorem d_P_byteOfPacket_86 : decode prog_4_method_8_code 86 = .ok (.irem, 1) := by decide +kernel
theorem d_P_byteOfPacket_87 : decode prog_4_method_8_code 87 = .ok (.invokevirtual 77, 3) := by decide +kernel
theorem d_P_byteOfPacket_90 : decode prog_4_method_8_code 90 = .ok (.ireturn, 1) := by decide +kernel
theorem d_P_isClosed_0 : decode prog_4_method_4_code 0 = .ok (.iload_n 1, 1) := by decide +kernel
theorem d_P_isClosed_1 : decode prog_4_method_4_code 1 = .ok (.iconst 1, 1) := by decide +kernel
theorem d_P_isClosed_2 : decode prog_4_method_4_code 2 = .ok (.if_icmp .lt 15, 3) := by decide +kernel
theorem d_P_isClosed_5 : decode prog_4_method_4_code 5 = .ok (.iload_n 1, 1) := by decide +kernel
theorem d_P_isClosed_6 : decode prog_4_method_4_code 6 = .ok (.aload_n 0, 1) := by decide +kernel
theorem d_P_isClosed_7 : decode prog_4_method_4_code 7 = .ok (.getfield 31, 3) := by decide +kernel
theorem d_P_isClosed_10 : decode prog_4_method_4_code 10 = .ok (.if_icmp .gt 7, 3) := by decide +kernel
theorem d_P_isClosed_13 : decode prog_4_method_4_code 13 = .ok (.iconst 1, 1) := by decide +kernel
theorem d_P_isClosed_14 : decode prog_4_method_4_code 14 = .ok (.goto 4, 3) := by decide +kernel
theorem d_P_isClosed_17 : decode prog_4_method_4_code 17 = .ok (.iconst 0, 1) := by decide +kernel
theorem d_P_isClosed_18 : decode prog_4_method_4_code 18 = .ok (.ireturn, 1) := by decide +kernel
theorem d_E_byteOf_0 : decode prog_3_method_3_code 0 = .ok (.iload_n 0, 1) := by decide +kernel
theorem d_E_byteOf_1 : decode prog_3_method_3_code 1 = .ok (.bipush 24, 2) := by decide +kernel
theorem d_E_byteOf_3 : decode prog_3_method_3_code 3 = .ok (.bipush 8, 2) := by decide +kernel
theorem d_E_byteOf_5 : decode prog_3_method_3_code 5 = .ok (.iload_n 1, 1) := by decide +kernel
theorem d_E_byteOf_6 : decode prog_3_method_3_code 6 = .ok (.imul, 1) := by decide +kernel
theorem d_E_byteOf_7 : decode prog_3_method_3_code 7 = .ok (.isub, 1) := by decide +kernel
theorem d_E_byteOf_8 : decode prog_3_method_3_code 8 = .ok (.iushr, 1) := by decide +kernel
theorem d_E_byteOf_9 : decode prog_3_method_3_code 9 = .ok (.sipush 255, 3) := by decide +kernel
theorem d_E_byteOf_12 : decode prog_3_method_3_code 12 = .ok (.iand, 1) := by decide +kernel
theorem d_E_byteOf_13 : decode prog_3_method_3_code 13 = .ok (.ireturn, 1) := by decide +kernel
theorem d_P_endOf_0 : decode prog_4_method_6_code 0 = .ok (.aload_n 0, 1) := by decide +kernel
theorem d_P_endOf_1 : decode prog_4_method_6_code 1 = .ok (.getfield 27, 3) := by decide +kernel
theorem d_P_endOf_4 : decode prog_4_method_6_code 4 = .ok (.iload_n 1, 1) := by decide +kernel
theorem d_P_endOf_5 : decode prog_4_method_6_code 5 = .ok (.iaload, 1) := by decide +kernel
theorem d_P_endOf_6 : decode prog_4_method_6_code 6 = .ok (.ireturn, 1) := by decide +kernel
theorem d_P_startOf_0 : decode prog_4_method_5_code 0 = .ok (.aload_n 0, 1) := by decide +kernel
theorem d_P_startOf_1 : decode prog_4_method_5_code 1 = .ok (.getfield 27, 3) := by decide +kernel
theorem d_P_startOf_4 : decode prog_4_method_5_code 4 = .ok (.iload_n 1, 1) := by decide +kernel
theorem d_P_startOf_5 : decode prog_4_method_5_code 5 = .ok (.iconst 1, 1) := by decide +kernel
theorem d_P_startOf_6 : decode prog_4_method_5_code 6 = .ok (.isub, 1) := by decide +kernel
theorem d_P_startOf_7 : decode prog_4_method_5_code 7 = .ok (.iaload, 1) := by decide +kernel
theorem d_P_startOf_8 : decode prog_4_method_5_code 8 = .ok (.ireturn, 1) := by decide +kernel
theorem d_E_byteAt_0 : decode prog_3_method_2_code 0 = .ok (.iload_n 1, 1) := by decide +kernel
theorem d_E_byteAt_1 : decode prog_3_method_2_code 1 = .ok (.ifCond .ne 8, 3) := by decide +kernel
theorem d_E_byteAt_4 : decode prog_3_method_2_code 4 = .ok (.aload_n 0, 1) := by decide +kernel
theorem d_E_byteAt_5 : decode prog_3_method_2_code 5 = .ok (.getfield 7, 3) := by decide +kernel
theorem d_E_byteAt_8 : decode prog_3_method_2_code 8 = .ok (.ireturn, 1) := by decide +kernel
theorem d_E_byteAt_9 : decode prog_3_method_2_code 9 = .ok (.iload_n 1, 1) := by decide +kernel
theorem d_E_byteAt_10 : decode prog_3_method_2_code 10 = .ok (.iconst 1, 1) := by decide +kernel
theorem d_E_byteAt_11 : decode prog_3_method_2_code 11 = .ok (.if_icmp .ne 8, 3) := by decide +kernel
theorem d_E_byteAt_14 : decode prog_3_method_2_code 14 = .ok (.aload_n 0, 1) := by decide +kernel
theorem d_E_byteAt_15 : decode prog_3_method_2_code 15 = .ok (.getfield 13, 3) := by decide +kernel
theorem d_E_byteAt_18 : decode prog_3_method_2_code 18 = .ok (.ireturn, 1) := by decide +kernel
theorem d_E_byteAt_19 : decode prog_3_method_2_code 19 = .ok (.iload_n 1, 1) := by decide +kernel
theorem d_E_byteAt_20 : decode prog_3_method_2_code 20 = .ok (.bipush 6, 2) := by decide +kernel
theorem d_E_byteAt_22 : decode prog_3_method_2_code 22 = .ok (.if_icmp .ge 14, 3) := by decide +kernel
theorem d_E_byteAt_25 : decode prog_3_method_2_code 25 = .ok (.aload_n 0, 1) := by decide +kernel
theorem d_E_byteAt_26 : decode prog_3_method_2_code 26 = .ok (.getfield 16, 3) := by decide +kernel
theorem d_E_byteAt_29 : decode prog_3_method_2_code 29 = .ok (.iload_n 1, 1) := by decide +kernel
theorem d_E_byteAt_30 : decode prog_3_method_2_code 30 = .ok (.iconst 2, 1) := by decide +kernel
theorem d_E_byteAt_31 : decode prog_3_method_2_code 31 = .ok (.isub, 1) := by decide +kernel
theorem d_E_byteAt_32 : decode prog_3_method_2_code 32 = .ok (.invokestatic 31, 3) := by decide +kernel
theorem d_E_byteAt_35 : decode prog_3_method_2_code 35 = .ok (.ireturn, 1) := by decide +kernel
theorem d_E_byteAt_36 : decode prog_3_method_2_code 36 = .ok (.iload_n 1, 1) := by decide +kernel
theorem d_E_byteAt_37 : decode prog_3_method_2_code 37 = .ok (.bipush 10, 2) := by decide +kernel
theorem d_E_byteAt_39 : decode prog_3_method_2_code 39 = .ok (.if_icmp .ge 15, 3) := by decide +kernel
theorem d_E_byteAt_42 : decode prog_3_method_2_code 42 = .ok (.aload_n 0, 1) := by decide +kernel
theorem d_E_byteAt_43 : decode prog_3_method_2_code 43 = .ok (.getfield 19, 3) := by decide +kernel
theorem d_E_byteAt_46 : decode prog_3_method_2_code 46 = .ok (.iload_n 1, 1) := by decide +kernel
theorem d_E_byteAt_47 : decode prog_3_method_2_code 47 = .ok (.bipush 6, 2) := by decide +kernel
theorem d_E_byteAt_49 : decode prog_3_method_2_code 49 = .ok (.isub, 1) := by decide +kernel
theorem d_E_byteAt_50 : decode prog_3_method_2_code 50 = .ok (.invokestatic 31, 3) := by decide +kernel
theorem d_E_byteAt_53 : decode prog_3_method_2_code 53 = .ok (.ireturn, 1) := by decide +kernel
theorem d_E_byteAt_54 : decode prog_3_method_2_code 54 = .ok (.iload_n 1, 1) := by decide +kernel
theorem d_E_byteAt_55 : decode prog_3_method_2_code 55 = .ok (.bipush 10, 2) := by decide +kernel
theorem d_E_byteAt_57 : decode prog_3_method_2_code 57 = .ok (.if_icmp .ne 8, 3) := by decide +kernel
theorem d_E_byteAt_60 : decode prog_3_method_2_code 60 = .ok (.aload_n 0, 1) := by decide +kernel
theorem d_E_byteAt_61 : decode prog_3_method_2_code 61 = .ok (.getfield 22, 3) := by decide +kernel
theorem d_E_byteAt_64 : decode prog_3_method_2_code 64 = .ok (.ireturn, 1) := by decide +kernel
theorem d_E_byteAt_65 : decode prog_3_method_2_code 65 = .ok (.iload_n 1, 1) := by decide +kernel
theorem d_E_byteAt_66 : decode prog_3_method_2_code 66 = .ok (.bipush 15, 2) := by decide +kernel
theorem d_E_byteAt_68 : decode prog_3_method_2_code 68 = .ok (.if_icmp .ge 17, 3) := by decide +kernel
theorem d_E_byteAt_71 : decode prog_3_method_2_code 71 = .ok (.aload_n 0, 1) := by decide +kernel
theorem d_E_byteAt_72 : decode prog_3_method_2_code 72 = .ok (.getfield 25, 3) := by decide +kernel
theorem d_E_byteAt_75 : decode prog_3_method_2_code 75 = .ok (.iload_n 1, 1) := by decide +kernel
theorem d_E_byteAt_76 : decode prog_3_method_2_code 76 = .ok (.bipush 11, 2) := by decide +kernel
theorem d_E_byteAt_78 : decode prog_3_method_2_code 78 = .ok (.isub, 1) := by decide +kernel
theorem d_E_byteAt_79 : decode prog_3_method_2_code 79 = .ok (.invokestatic 31, 3) := by decide +kernel
theorem d_E_byteAt_82 : decode prog_3_method_2_code 82 = .ok (.goto 14, 3) := by decide +kernel
theorem d_E_byteAt_85 : decode prog_3_method_2_code 85 = .ok (.aload_n 0, 1) := by decide +kernel
theorem d_E_byteAt_86 : decode prog_3_method_2_code 86 = .ok (.getfield 28, 3) := by decide +kernel
theorem d_E_byteAt_89 : decode prog_3_method_2_code 89 = .ok (.iload_n 1, 1) := by decide +kernel
theorem d_E_byteAt_90 : decode prog_3_method_2_code 90 = .ok (.bipush 15, 2) := by decide +kernel
theorem d_E_byteAt_92 : decode prog_3_method_2_code 92 = .ok (.isub, 1) := by decide +kernel
theorem d_E_byteAt_93 : decode prog_3_method_2_code 93 = .ok (.invokestatic 31, 3) := by decide +kernel
theorem d_E_byteAt_96 : decode prog_3_method_2_code 96 = .ok (.ireturn, 1) := by decide +kernel
theorem d_D_line_0 : decode prog_1_method_10_code 0 = .ok (.iload_n 1, 1) := by decide +kernel
theorem d_D_line_1 : decode prog_1_method_10_code 1 = .ok (.ifCond .lt 26, 3) := by decide +kernel
theorem d_D_line_4 : decode prog_1_method_10_code 4 = .ok (.iload_n 1, 1) := by decide +kernel
theorem d_D_line_5 : decode prog_1_method_10_code 5 = .ok (.iconst 2, 1) := by decide +kernel
theorem d_D_line_6 : decode prog_1_method_10_code 6 = .ok (.if_icmp .ge 21, 3) := by decide +kernel
theorem d_D_line_9 : decode prog_1_method_10_code 9 = .ok (.aload_n 0, 1) := by decide +kernel
theorem d_D_line_10 : decode prog_1_method_10_code 10 = .ok (.getfield 24, 3) := by decide +kernel
theorem d_D_line_13 : decode prog_1_method_10_code 13 = .ok (.iload_n 2, 1) := by decide +kernel
theorem d_D_line_14 : decode prog_1_method_10_code 14 = .ok (.invokevirtual 56, 3) := by decide +kernel
theorem d_D_line_17 : decode prog_1_method_10_code 17 = .ok (.ifCond .eq 10, 3) := by decide +kernel
theorem d_D_line_20 : decode prog_1_method_10_code 20 = .ok (.iload_n 3, 1) := by decide +kernel
theorem d_D_line_21 : decode prog_1_method_10_code 21 = .ok (.invokestatic 59, 3) := by decide +kernel
theorem d_D_line_24 : decode prog_1_method_10_code 24 = .ok (.ifCond .ne 6, 3) := by decide +kernel
theorem d_D_line_27 : decode prog_1_method_10_code 27 = .ok (.bipush (-2), 2) := by decide +kernel
theorem d_D_line_29 : decode prog_1_method_10_code 29 = .ok (.ireturn, 1) := by decide +kernel
theorem d_D_line_30 : decode prog_1_method_10_code 30 = .ok (.aload_n 0, 1) := by decide +kernel
theorem d_D_line_31 : decode prog_1_method_10_code 31 = .ok (.getfield 11, 3) := by decide +kernel
theorem d_D_line_34 : decode prog_1_method_10_code 34 = .ok (.iload_n 3, 1) := by decide +kernel
theorem d_D_line_35 : decode prog_1_method_10_code 35 = .ok (.aaload, 1) := by decide +kernel
theorem d_D_line_36 : decode prog_1_method_10_code 36 = .ok (.iload_n 2, 1) := by decide +kernel
theorem d_D_line_37 : decode prog_1_method_10_code 37 = .ok (.invokevirtual 62, 3) := by decide +kernel
theorem d_D_line_40 : decode prog_1_method_10_code 40 = .ok (.ireturn, 1) := by decide +kernel
theorem d_D_isReceiver_0 : decode prog_1_method_25_code 0 = .ok (.iload_n 0, 1) := by decide +kernel
theorem d_D_isReceiver_1 : decode prog_1_method_25_code 1 = .ok (.ifCond .lt 12, 3) := by decide +kernel
theorem d_D_isReceiver_4 : decode prog_1_method_25_code 4 = .ok (.iload_n 0, 1) := by decide +kernel
theorem d_D_isReceiver_5 : decode prog_1_method_25_code 5 = .ok (.iconst 2, 1) := by decide +kernel
theorem d_D_isReceiver_6 : decode prog_1_method_25_code 6 = .ok (.if_icmp .ge 7, 3) := by decide +kernel
theorem d_D_isReceiver_9 : decode prog_1_method_25_code 9 = .ok (.iconst 1, 1) := by decide +kernel
theorem d_D_isReceiver_10 : decode prog_1_method_25_code 10 = .ok (.goto 4, 3) := by decide +kernel
theorem d_D_isReceiver_13 : decode prog_1_method_25_code 13 = .ok (.iconst 0, 1) := by decide +kernel
theorem d_D_isReceiver_14 : decode prog_1_method_25_code 14 = .ok (.ireturn, 1) := by decide +kernel
theorem d_V_hear_0 : decode prog_6_method_2_code 0 = .ok (.aload_n 0, 1) := by decide +kernel
theorem d_V_hear_1 : decode prog_6_method_2_code 1 = .ok (.aload_n 0, 1) := by decide +kernel
theorem d_V_hear_2 : decode prog_6_method_2_code 2 = .ok (.getfield 21, 3) := by decide +kernel
theorem d_V_hear_5 : decode prog_6_method_2_code 5 = .ok (.iload_n 1, 1) := by decide +kernel
theorem d_V_hear_6 : decode prog_6_method_2_code 6 = .ok (.invokestatic 38, 3) := by decide +kernel
theorem d_V_hear_9 : decode prog_6_method_2_code 9 = .ok (.putfield 21, 3) := by decide +kernel
theorem d_V_hear_12 : decode prog_6_method_2_code 12 = .ok (.iload_n 1, 1) := by decide +kernel
theorem d_V_hear_13 : decode prog_6_method_2_code 13 = .ok (.aload_n 0, 1) := by decide +kernel
theorem d_V_hear_14 : decode prog_6_method_2_code 14 = .ok (.getfield 17, 3) := by decide +kernel
theorem d_V_hear_17 : decode prog_6_method_2_code 17 = .ok (.if_icmp .ge 5, 3) := by decide +kernel
theorem d_V_hear_20 : decode prog_6_method_2_code 20 = .ok (.iconst 0, 1) := by decide +kernel
theorem d_V_hear_21 : decode prog_6_method_2_code 21 = .ok (.ireturn, 1) := by decide +kernel
theorem d_V_hear_22 : decode prog_6_method_2_code 22 = .ok (.iload_n 1, 1) := by decide +kernel
theorem d_V_hear_23 : decode prog_6_method_2_code 23 = .ok (.aload_n 0, 1) := by decide +kernel
theorem d_V_hear_24 : decode prog_6_method_2_code 24 = .ok (.getfield 17, 3) := by decide +kernel
theorem d_V_hear_27 : decode prog_6_method_2_code 27 = .ok (.bipush 6, 2) := by decide +kernel
theorem d_V_hear_29 : decode prog_6_method_2_code 29 = .ok (.iadd, 1) := by decide +kernel
theorem d_V_hear_30 : decode prog_6_method_2_code 30 = .ok (.if_icmp .le 5, 3) := by decide +kernel
theorem d_V_hear_33 : decode prog_6_method_2_code 33 = .ok (.iconst 3, 1) := by decide +kernel
theorem d_V_hear_34 : decode prog_6_method_2_code 34 = .ok (.ireturn, 1) := by decide +kernel
theorem d_V_hear_35 : decode prog_6_method_2_code 35 = .ok (.iload_n 1, 1) := by decide +kernel
theorem d_V_hear_36 : decode prog_6_method_2_code 36 = .ok (.aload_n 0, 1) := by decide +kernel
theorem d_V_hear_37 : decode prog_6_method_2_code 37 = .ok (.getfield 17, 3) := by decide +kernel
theorem d_V_hear_40 : decode prog_6_method_2_code 40 = .ok (.if_icmp .le 15, 3) := by decide +kernel
theorem d_V_hear_43 : decode prog_6_method_2_code 43 = .ok (.aload_n 0, 1) := by decide +kernel
theorem d_V_hear_44 : decode prog_6_method_2_code 44 = .ok (.getfield 24, 3) := by decide +kernel
theorem d_V_hear_47 : decode prog_6_method_2_code 47 = .ok (.iload_n 1, 1) := by decide +kernel
theorem d_V_hear_48 : decode prog_6_method_2_code 48 = .ok (.bipush 7, 2) := by decide +kernel
theorem d_V_hear_50 : decode prog_6_method_2_code 50 = .ok (.iand, 1) := by decide +kernel
theorem d_V_hear_51 : decode prog_6_method_2_code 51 = .ok (.iconst 1, 1) := by decide +kernel
theorem d_V_hear_52 : decode prog_6_method_2_code 52 = .ok (.bastore, 1) := by decide +kernel
theorem d_V_hear_53 : decode prog_6_method_2_code 53 = .ok (.iconst 2, 1) := by decide +kernel
theorem d_V_hear_54 : decode prog_6_method_2_code 54 = .ok (.ireturn, 1) := by decide +kernel
theorem d_V_hear_55 : decode prog_6_method_2_code 55 = .ok (.aload_n 0, 1) := by decide +kernel
theorem d_V_hear_56 : decode prog_6_method_2_code 56 = .ok (.iload_n 1, 1) := by decide +kernel
theorem d_V_hear_57 : decode prog_6_method_2_code 57 = .ok (.invokevirtual 44, 3) := by decide +kernel
theorem d_V_hear_60 : decode prog_6_method_2_code 60 = .ok (.iconst 1, 1) := by decide +kernel
theorem d_V_hear_61 : decode prog_6_method_2_code 61 = .ok (.ireturn, 1) := by decide +kernel
theorem d_V_passThrough_0 : decode prog_6_method_6_code 0 = .ok (.aload_n 0, 1) := by decide +kernel
theorem d_V_passThrough_1 : decode prog_6_method_6_code 1 = .ok (.getfield 17, 3) := by decide +kernel
theorem d_V_passThrough_4 : decode prog_6_method_6_code 4 = .ok (.aload_n 0, 1) := by decide +kernel
theorem d_V_passThrough_5 : decode prog_6_method_6_code 5 = .ok (.getfield 31, 3) := by decide +kernel
theorem d_V_passThrough_8 : decode prog_6_method_6_code 8 = .ok (.getfield 61, 3) := by decide +kernel
theorem d_V_passThrough_11 : decode prog_6_method_6_code 11 = .ok (.if_icmp .gt 118, 3) := by decide +kernel
theorem d_V_passThrough_14 : decode prog_6_method_6_code 14 = .ok (.aload_n 0, 1) := by decide +kernel
theorem d_V_passThrough_15 : decode prog_6_method_6_code 15 = .ok (.getfield 17, 3) := by decide +kernel
theorem d_V_passThrough_18 : decode prog_6_method_6_code 18 = .ok (.iload_n 1, 1) := by decide +kernel
theorem d_V_passThrough_19 : decode prog_6_method_6_code 19 = .ok (.if_icmp .le 18, 3) := by decide +kernel
theorem d_V_passThrough_22 : decode prog_6_method_6_code 22 = .ok (.aload_n 0, 1) := by decide +kernel
theorem d_V_passThrough_23 : decode prog_6_method_6_code 23 = .ok (.getfield 24, 3) := by decide +kernel
theorem d_V_passThrough_26 : decode prog_6_method_6_code 26 = .ok (.aload_n 0, 1) := by decide +kernel
theorem d_V_passThrough_27 : decode prog_6_method_6_code 27 = .ok (.getfield 17, 3) := by decide +kernel
theorem d_V_passThrough_30 : decode prog_6_method_6_code 30 = .ok (.bipush 7, 2) := by decide +kernel
theorem d_V_passThrough_32 : decode prog_6_method_6_code 32 = .ok (.iand, 1) := by decide +kernel
theorem d_V_passThrough_33 : decode prog_6_method_6_code 33 = .ok (.baload, 1) := by decide +kernel
theorem d_V_passThrough_34 : decode prog_6_method_6_code 34 = .ok (.ifCond .eq 95, 3) := by decide +kernel
theorem d_V_passThrough_37 : decode prog_6_method_6_code 37 = .ok (.aload_n 0, 1) := by decide +kernel
theorem d_V_passThrough_38 : decode prog_6_method_6_code 38 = .ok (.getfield 24, 3) := by decide +kernel
theorem d_V_passThrough_41 : decode prog_6_method_6_code 41 = .ok (.aload_n 0, 1) := by decide +kernel
theorem d_V_passThrough_42 : decode prog_6_method_6_code 42 = .ok (.getfield 17, 3) := by decide +kernel
theorem d_V_passThrough_45 : decode prog_6_method_6_code 45 = .ok (.bipush 7, 2) := by decide +kernel
theorem d_V_passThrough_47 : decode prog_6_method_6_code 47 = .ok (.iand, 1) := by decide +kernel
theorem d_V_passThrough_48 : decode prog_6_method_6_code 48 = .ok (.iconst 0, 1) := by decide +kernel
theorem d_V_passThrough_49 : decode prog_6_method_6_code 49 = .ok (.bastore, 1) := by decide +kernel
theorem d_V_passThrough_50 : decode prog_6_method_6_code 50 = .ok (.aload_n 0, 1) := by decide +kernel
theorem d_V_passThrough_51 : decode prog_6_method_6_code 51 = .ok (.getfield 31, 3) := by decide +kernel
theorem d_V_passThrough_54 : decode prog_6_method_6_code 54 = .ok (.aload_n 0, 1) := by decide +kernel
theorem d_V_passThrough_55 : decode prog_6_method_6_code 55 = .ok (.getfield 17, 3) := by decide +kernel
theorem d_V_passThrough_58 : decode prog_6_method_6_code 58 = .ok (.invokevirtual 64, 3) := by decide +kernel
theorem d_V_passThrough_61 : decode prog_6_method_6_code 61 = .ok (.istore_n 2, 1) := by decide +kernel
theorem d_V_passThrough_62 : decode prog_6_method_6_code 62 = .ok (.aload_n 0, 1) := by decide +kernel
theorem d_V_passThrough_63 : decode prog_6_method_6_code 63 = .ok (.getfield 31, 3) := by decide +kernel
theorem d_V_passThrough_66 : decode prog_6_method_6_code 66 = .ok (.aload_n 0, 1) := by decide +kernel
theorem d_V_passThrough_67 : decode prog_6_method_6_code 67 = .ok (.getfield 17, 3) := by decide +kernel
theorem d_V_passThrough_70 : decode prog_6_method_6_code 70 = .ok (.invokevirtual 68, 3) := by decide +kernel
theorem d_V_passThrough_73 : decode prog_6_method_6_code 73 = .ok (.istore_n 3, 1) := by decide +kernel
theorem d_V_passThrough_74 : decode prog_6_method_6_code 74 = .ok (.iload_n 3, 1) := by decide +kernel
theorem d_V_passThrough_75 : decode prog_6_method_6_code 75 = .ok (.iload_n 2, 1) := by decide +kernel
theorem d_V_passThrough_76 : decode prog_6_method_6_code 76 = .ok (.if_icmp .ge 40, 3) := by decide +kernel
theorem d_V_passThrough_79 : decode prog_6_method_6_code 79 = .ok (.aload_n 0, 1) := by decide +kernel
theorem d_V_passThrough_80 : decode prog_6_method_6_code 80 = .ok (.getfield 31, 3) := by decide +kernel
theorem d_V_passThrough_83 : decode prog_6_method_6_code 83 = .ok (.getfield 71, 3) := by decide +kernel
theorem d_V_passThrough_86 : decode prog_6_method_6_code 86 = .ok (.iload_n 3, 1) := by decide +kernel
theorem d_V_passThrough_87 : decode prog_6_method_6_code 87 = .ok (.aaload, 1) := by decide +kernel
theorem d_V_passThrough_88 : decode prog_6_method_6_code 88 = .ok (.astore 4, 2) := by decide +kernel
theorem d_V_passThrough_90 : decode prog_6_method_6_code 90 = .ok (.aload 4, 2) := by decide +kernel
theorem d_V_passThrough_92 : decode prog_6_method_6_code 92 = .ok (.ifnull 18, 3) := by decide +kernel
theorem d_V_passThrough_95 : decode prog_6_method_6_code 95 = .ok (.aload_n 0, 1) := by decide +kernel
theorem d_V_passThrough_96 : decode prog_6_method_6_code 96 = .ok (.getfield 11, 3) := by decide +kernel
theorem d_V_passThrough_99 : decode prog_6_method_6_code 99 = .ok (.aload 4, 2) := by decide +kernel
theorem d_V_passThrough_101 : decode prog_6_method_6_code 101 = .ok (.getfield 75, 3) := by decide +kernel
theorem d_V_passThrough_104 : decode prog_6_method_6_code 104 = .ok (.aaload, 1) := by decide +kernel
theorem d_V_passThrough_105 : decode prog_6_method_6_code 105 = .ok (.aload 4, 2) := by decide +kernel
theorem d_V_passThrough_107 : decode prog_6_method_6_code 107 = .ok (.invokevirtual 80, 3) := by decide +kernel
theorem d_V_passThrough_110 : decode prog_6_method_6_code 110 = .ok (.iinc 3 1, 3) := by decide +kernel
theorem d_V_passThrough_113 : decode prog_6_method_6_code 113 = .ok (.goto (-39), 3) := by decide +kernel
theorem d_V_passThrough_116 : decode prog_6_method_6_code 116 = .ok (.aload_n 0, 1) := by decide +kernel
theorem d_V_passThrough_117 : decode prog_6_method_6_code 117 = .ok (.dup, 1) := by decide +kernel
theorem d_V_passThrough_118 : decode prog_6_method_6_code 118 = .ok (.getfield 17, 3) := by decide +kernel
theorem d_V_passThrough_121 : decode prog_6_method_6_code 121 = .ok (.iconst 1, 1) := by decide +kernel
theorem d_V_passThrough_122 : decode prog_6_method_6_code 122 = .ok (.iadd, 1) := by decide +kernel
theorem d_V_passThrough_123 : decode prog_6_method_6_code 123 = .ok (.putfield 17, 3) := by decide +kernel
theorem d_V_passThrough_126 : decode prog_6_method_6_code 126 = .ok (.goto (-126), 3) := by decide +kernel
theorem d_V_passThrough_129 : decode prog_6_method_6_code 129 = .ok (.return_, 1) := by decide +kernel
theorem d_T_take_0 : decode prog_8_method_2_code 0 = .ok (.aload_n 0, 1) := by decide +kernel
theorem d_T_take_1 : decode prog_8_method_2_code 1 = .ok (.getfield 12, 3) := by decide +kernel
theorem d_T_take_4 : decode prog_8_method_2_code 4 = .ok (.getfield 46, 3) := by decide +kernel
theorem d_T_take_7 : decode prog_8_method_2_code 7 = .ok (.iconst 1, 1) := by decide +kernel
theorem d_T_take_8 : decode prog_8_method_2_code 8 = .ok (.iadd, 1) := by decide +kernel
theorem d_T_take_9 : decode prog_8_method_2_code 9 = .ok (.istore_n 2, 1) := by decide +kernel
theorem d_T_take_10 : decode prog_8_method_2_code 10 = .ok (.aload_n 1, 1) := by decide +kernel
theorem d_T_take_11 : decode prog_8_method_2_code 11 = .ok (.getfield 49, 3) := by decide +kernel
theorem d_T_take_14 : decode prog_8_method_2_code 14 = .ok (.iload_n 2, 1) := by decide +kernel
theorem d_T_take_15 : decode prog_8_method_2_code 15 = .ok (.if_icmp .ne 18, 3) := by decide +kernel
theorem d_T_take_18 : decode prog_8_method_2_code 18 = .ok (.aload_n 0, 1) := by decide +kernel
theorem d_T_take_19 : decode prog_8_method_2_code 19 = .ok (.getfield 12, 3) := by decide +kernel
theorem d_T_take_22 : decode prog_8_method_2_code 22 = .ok (.aload_n 1, 1) := by decide +kernel
theorem d_T_take_23 : decode prog_8_method_2_code 23 = .ok (.invokevirtual 52, 3) := by decide +kernel
theorem d_T_take_26 : decode prog_8_method_2_code 26 = .ok (.aload_n 0, 1) := by decide +kernel
theorem d_T_take_27 : decode prog_8_method_2_code 27 = .ok (.invokevirtual 56, 3) := by decide +kernel
theorem d_T_take_30 : decode prog_8_method_2_code 30 = .ok (.goto 16, 3) := by decide +kernel
theorem d_T_take_33 : decode prog_8_method_2_code 33 = .ok (.aload_n 1, 1) := by decide +kernel
theorem d_T_take_34 : decode prog_8_method_2_code 34 = .ok (.getfield 49, 3) := by decide +kernel
theorem d_T_take_37 : decode prog_8_method_2_code 37 = .ok (.iload_n 2, 1) := by decide +kernel
theorem d_T_take_38 : decode prog_8_method_2_code 38 = .ok (.if_icmp .le 8, 3) := by decide +kernel
theorem d_T_take_41 : decode prog_8_method_2_code 41 = .ok (.aload_n 0, 1) := by decide +kernel
theorem d_T_take_42 : decode prog_8_method_2_code 42 = .ok (.aload_n 1, 1) := by decide +kernel
theorem d_T_take_43 : decode prog_8_method_2_code 43 = .ok (.invokevirtual 59, 3) := by decide +kernel
theorem d_T_take_46 : decode prog_8_method_2_code 46 = .ok (.return_, 1) := by decide +kernel
theorem d_T_follow_0 : decode prog_8_method_4_code 0 = .ok (.iconst 0, 1) := by decide +kernel
theorem d_T_follow_1 : decode prog_8_method_4_code 1 = .ok (.istore_n 1, 1) := by decide +kernel
theorem d_T_follow_2 : decode prog_8_method_4_code 2 = .ok (.iload_n 1, 1) := by decide +kernel
theorem d_T_follow_3 : decode prog_8_method_4_code 3 = .ok (.bipush 30, 2) := by decide +kernel
theorem d_T_follow_5 : decode prog_8_method_4_code 5 = .ok (.if_icmp .gt 61, 3) := by decide +kernel
theorem d_T_follow_8 : decode prog_8_method_4_code 8 = .ok (.aload_n 0, 1) := by decide +kernel
theorem d_T_follow_9 : decode prog_8_method_4_code 9 = .ok (.getfield 12, 3) := by decide +kernel
theorem d_T_follow_12 : decode prog_8_method_4_code 12 = .ok (.aload_n 0, 1) := by decide +kernel
theorem d_T_follow_13 : decode prog_8_method_4_code 13 = .ok (.getfield 22, 3) := by decide +kernel
theorem d_T_follow_16 : decode prog_8_method_4_code 16 = .ok (.invokevirtual 75, 3) := by decide +kernel
theorem d_T_follow_19 : decode prog_8_method_4_code 19 = .ok (.ifCond .eq 14, 3) := by decide +kernel
theorem d_T_follow_22 : decode prog_8_method_4_code 22 = .ok (.aload_n 0, 1) := by decide +kernel
theorem d_T_follow_23 : decode prog_8_method_4_code 23 = .ok (.getfield 42, 3) := by decide +kernel
theorem d_T_follow_26 : decode prog_8_method_4_code 26 = .ok (.aload_n 0, 1) := by decide +kernel
theorem d_T_follow_27 : decode prog_8_method_4_code 27 = .ok (.getfield 39, 3) := by decide +kernel
theorem d_T_follow_30 : decode prog_8_method_4_code 30 = .ok (.invokevirtual 79, 3) := by decide +kernel
theorem d_T_follow_33 : decode prog_8_method_4_code 33 = .ok (.aload_n 0, 1) := by decide +kernel
theorem d_T_follow_34 : decode prog_8_method_4_code 34 = .ok (.aload_n 0, 1) := by decide +kernel
theorem d_T_follow_35 : decode prog_8_method_4_code 35 = .ok (.getfield 12, 3) := by decide +kernel
theorem d_T_follow_38 : decode prog_8_method_4_code 38 = .ok (.getfield 46, 3) := by decide +kernel
theorem d_T_follow_41 : decode prog_8_method_4_code 41 = .ok (.iconst 1, 1) := by decide +kernel
theorem d_T_follow_42 : decode prog_8_method_4_code 42 = .ok (.iadd, 1) := by decide +kernel
theorem d_T_follow_43 : decode prog_8_method_4_code 43 = .ok (.invokevirtual 85, 3) := by decide +kernel
theorem d_T_follow_46 : decode prog_8_method_4_code 46 = .ok (.astore_n 2, 1) := by decide +kernel
theorem d_T_follow_47 : decode prog_8_method_4_code 47 = .ok (.aload_n 2, 1) := by decide +kernel
theorem d_T_follow_48 : decode prog_8_method_4_code 48 = .ok (.ifnonnull 4, 3) := by decide +kernel
theorem d_T_follow_51 : decode prog_8_method_4_code 51 = .ok (.return_, 1) := by decide +kernel
theorem d_T_follow_52 : decode prog_8_method_4_code 52 = .ok (.aload_n 0, 1) := by decide +kernel
theorem d_T_follow_53 : decode prog_8_method_4_code 53 = .ok (.getfield 12, 3) := by decide +kernel
theorem d_T_follow_56 : decode prog_8_method_4_code 56 = .ok (.aload_n 2, 1) := by decide +kernel
theorem d_T_follow_57 : decode prog_8_method_4_code 57 = .ok (.invokevirtual 52, 3) := by decide +kernel
theorem d_T_follow_60 : decode prog_8_method_4_code 60 = .ok (.iinc 1 1, 3) := by decide +kernel
theorem d_T_follow_63 : decode prog_8_method_4_code 63 = .ok (.goto (-61), 3) := by decide +kernel
theorem d_T_follow_66 : decode prog_8_method_4_code 66 = .ok (.return_, 1) := by decide +kernel
theorem d_B_refresh_0 : decode prog_2_method_14_code 0 = .ok (.iconst 0, 1) := by decide +kernel
theorem d_B_refresh_1 : decode prog_2_method_14_code 1 = .ok (.istore_n 2, 1) := by decide +kernel
theorem d_B_refresh_2 : decode prog_2_method_14_code 2 = .ok (.iconst 0, 1) := by decide +kernel
theorem d_B_refresh_3 : decode prog_2_method_14_code 3 = .ok (.istore_n 3, 1) := by decide +kernel
theorem d_B_refresh_4 : decode prog_2_method_14_code 4 = .ok (.iload_n 3, 1) := by decide +kernel
theorem d_B_refresh_5 : decode prog_2_method_14_code 5 = .ok (.bipush 19, 2) := by decide +kernel
theorem d_B_refresh_7 : decode prog_2_method_14_code 7 = .ok (.if_icmp .ge 70, 3) := by decide +kernel
theorem d_B_refresh_10 : decode prog_2_method_14_code 10 = .ok (.iload_n 3, 1) := by decide +kernel
theorem d_B_refresh_11 : decode prog_2_method_14_code 11 = .ok (.aload_n 1, 1) := by decide +kernel
theorem d_B_refresh_12 : decode prog_2_method_14_code 12 = .ok (.arraylength, 1) := by decide +kernel
theorem d_B_refresh_13 : decode prog_2_method_14_code 13 = .ok (.if_icmp .ge 64, 3) := by decide +kernel
theorem d_B_refresh_16 : decode prog_2_method_14_code 16 = .ok (.iload_n 3, 1) := by decide +kernel
theorem d_B_refresh_17 : decode prog_2_method_14_code 17 = .ok (.bipush 18, 2) := by decide +kernel
theorem d_B_refresh_19 : decode prog_2_method_14_code 19 = .ok (.if_icmp .ne 10, 3) := by decide +kernel
theorem d_B_refresh_22 : decode prog_2_method_14_code 22 = .ok (.aload_n 0, 1) := by decide +kernel
theorem d_B_refresh_23 : decode prog_2_method_14_code 23 = .ok (.invokevirtual 39, 3) := by decide +kernel
theorem d_B_refresh_26 : decode prog_2_method_14_code 26 = .ok (.goto 20, 3) := by decide +kernel
theorem d_B_refresh_29 : decode prog_2_method_14_code 29 = .ok (.aload_n 0, 1) := by decide +kernel
theorem d_B_refresh_30 : decode prog_2_method_14_code 30 = .ok (.iload_n 3, 1) := by decide +kernel
theorem d_B_refresh_31 : decode prog_2_method_14_code 31 = .ok (.bipush 9, 2) := by decide +kernel
theorem d_B_refresh_33 : decode prog_2_method_14_code 33 = .ok (.idiv, 1) := by decide +kernel
theorem d_B_refresh_34 : decode prog_2_method_14_code 34 = .ok (.iload_n 3, 1) := by decide +kernel
theorem d_B_refresh_35 : decode prog_2_method_14_code 35 = .ok (.bipush 9, 2) := by decide +kernel
theorem d_B_refresh_37 : decode prog_2_method_14_code 37 = .ok (.irem, 1) := by decide +kernel
theorem d_B_refresh_38 : decode prog_2_method_14_code 38 = .ok (.iconst 3, 1) := by decide +kernel
theorem d_B_refresh_39 : decode prog_2_method_14_code 39 = .ok (.idiv, 1) := by decide +kernel
theorem d_B_refresh_40 : decode prog_2_method_14_code 40 = .ok (.iload_n 3, 1) := by decide +kernel
theorem d_B_refresh_41 : decode prog_2_method_14_code 41 = .ok (.iconst 3, 1) := by decide +kernel
theorem d_B_refresh_42 : decode prog_2_method_14_code 42 = .ok (.irem, 1) := by decide +kernel
theorem d_B_refresh_43 : decode prog_2_method_14_code 43 = .ok (.invokevirtual 85, 3) := by decide +kernel
theorem d_B_refresh_46 : decode prog_2_method_14_code 46 = .ok (.istore 4, 2) := by decide +kernel
theorem d_B_refresh_48 : decode prog_2_method_14_code 48 = .ok (.iload_n 2, 1) := by decide +kernel
theorem d_B_refresh_49 : decode prog_2_method_14_code 49 = .ok (.ifCond .ne 11, 3) := by decide +kernel
theorem d_B_refresh_52 : decode prog_2_method_14_code 52 = .ok (.aload_n 1, 1) := by decide +kernel
theorem d_B_refresh_53 : decode prog_2_method_14_code 53 = .ok (.iload_n 3, 1) := by decide +kernel
theorem d_B_refresh_54 : decode prog_2_method_14_code 54 = .ok (.iaload, 1) := by decide +kernel
theorem d_B_refresh_55 : decode prog_2_method_14_code 55 = .ok (.iload 4, 2) := by decide +kernel
theorem d_B_refresh_57 : decode prog_2_method_14_code 57 = .ok (.if_icmp .eq 7, 3) := by decide +kernel
theorem d_B_refresh_60 : decode prog_2_method_14_code 60 = .ok (.iconst 1, 1) := by decide +kernel
theorem d_B_refresh_61 : decode prog_2_method_14_code 61 = .ok (.goto 4, 3) := by decide +kernel
theorem d_B_refresh_64 : decode prog_2_method_14_code 64 = .ok (.iconst 0, 1) := by decide +kernel
theorem d_B_refresh_65 : decode prog_2_method_14_code 65 = .ok (.istore_n 2, 1) := by decide +kernel
theorem d_B_refresh_66 : decode prog_2_method_14_code 66 = .ok (.aload_n 1, 1) := by decide +kernel
theorem d_B_refresh_67 : decode prog_2_method_14_code 67 = .ok (.iload_n 3, 1) := by decide +kernel
theorem d_B_refresh_68 : decode prog_2_method_14_code 68 = .ok (.iload 4, 2) := by decide +kernel
theorem d_B_refresh_70 : decode prog_2_method_14_code 70 = .ok (.iastore, 1) := by decide +kernel
theorem d_B_refresh_71 : decode prog_2_method_14_code 71 = .ok (.iinc 3 1, 3) := by decide +kernel
theorem d_B_refresh_74 : decode prog_2_method_14_code 74 = .ok (.goto (-70), 3) := by decide +kernel
theorem d_B_refresh_77 : decode prog_2_method_14_code 77 = .ok (.iload_n 2, 1) := by decide +kernel
theorem d_B_refresh_78 : decode prog_2_method_14_code 78 = .ok (.ireturn, 1) := by decide +kernel
theorem d_B_levelValue_0 : decode prog_2_method_13_code 0 = .ok (.aload_n 0, 1) := by decide +kernel
theorem d_B_levelValue_1 : decode prog_2_method_13_code 1 = .ok (.iload_n 1, 1) := by decide +kernel
theorem d_B_levelValue_2 : decode prog_2_method_13_code 2 = .ok (.invokevirtual 65, 3) := by decide +kernel
theorem d_B_levelValue_5 : decode prog_2_method_13_code 5 = .ok (.istore 4, 2) := by decide +kernel
theorem d_B_levelValue_7 : decode prog_2_method_13_code 7 = .ok (.aload_n 0, 1) := by decide +kernel
theorem d_B_levelValue_8 : decode prog_2_method_13_code 8 = .ok (.iload_n 1, 1) := by decide +kernel
theorem d_B_levelValue_9 : decode prog_2_method_13_code 9 = .ok (.invokevirtual 68, 3) := by decide +kernel
theorem d_B_levelValue_12 : decode prog_2_method_13_code 12 = .ok (.istore 5, 2) := by decide +kernel
theorem d_B_levelValue_14 : decode prog_2_method_13_code 14 = .ok (.iconst (-1), 1) := by decide +kernel
theorem d_B_levelValue_15 : decode prog_2_method_13_code 15 = .ok (.istore 6, 2) := by decide +kernel
theorem d_B_levelValue_17 : decode prog_2_method_13_code 17 = .ok (.iconst 0, 1) := by decide +kernel
theorem d_B_levelValue_18 : decode prog_2_method_13_code 18 = .ok (.istore 7, 2) := by decide +kernel
theorem d_B_levelValue_20 : decode prog_2_method_13_code 20 = .ok (.iconst 0, 1) := by decide +kernel
theorem d_B_levelValue_21 : decode prog_2_method_13_code 21 = .ok (.istore 8, 2) := by decide +kernel
theorem d_B_levelValue_23 : decode prog_2_method_13_code 23 = .ok (.iconst 0, 1) := by decide +kernel
theorem d_B_levelValue_24 : decode prog_2_method_13_code 24 = .ok (.istore 9, 2) := by decide +kernel
theorem d_B_levelValue_26 : decode prog_2_method_13_code 26 = .ok (.iload 4, 2) := by decide +kernel
theorem d_B_levelValue_28 : decode prog_2_method_13_code 28 = .ok (.istore 10, 2) := by decide +kernel
theorem d_B_levelValue_30 : decode prog_2_method_13_code 30 = .ok (.iload 10, 2) := by decide +kernel
theorem d_B_levelValue_32 : decode prog_2_method_13_code 32 = .ok (.iload 5, 2) := by decide +kernel
theorem d_B_levelValue_34 : decode prog_2_method_13_code 34 = .ok (.if_icmp .ge 74, 3) := by decide +kernel
theorem d_B_levelValue_37 : decode prog_2_method_13_code 37 = .ok (.iload 6, 2) := by decide +kernel
theorem d_B_levelValue_39 : decode prog_2_method_13_code 39 = .ok (.iload_n 2, 1) := by decide +kernel
theorem d_B_levelValue_40 : decode prog_2_method_13_code 40 = .ok (.if_icmp .gt 68, 3) := by decide +kernel
theorem d_B_levelValue_43 : decode prog_2_method_13_code 43 = .ok (.iload 10, 2) := by decide +kernel
theorem d_B_levelValue_45 : decode prog_2_method_13_code 45 = .ok (.iload 4, 2) := by decide +kernel
theorem d_B_levelValue_47 : decode prog_2_method_13_code 47 = .ok (.if_icmp .eq 22, 3) := by decide +kernel
theorem d_B_levelValue_50 : decode prog_2_method_13_code 50 = .ok (.aload_n 0, 1) := by decide +kernel
theorem d_B_levelValue_51 : decode prog_2_method_13_code 51 = .ok (.getfield 15, 3) := by decide +kernel
theorem d_B_levelValue_54 : decode prog_2_method_13_code 54 = .ok (.iload 10, 2) := by decide +kernel
theorem d_B_levelValue_56 : decode prog_2_method_13_code 56 = .ok (.iaload, 1) := by decide +kernel
theorem d_B_levelValue_57 : decode prog_2_method_13_code 57 = .ok (.aload_n 0, 1) := by decide +kernel
theorem d_B_levelValue_58 : decode prog_2_method_13_code 58 = .ok (.getfield 15, 3) := by decide +kernel
theorem d_B_levelValue_61 : decode prog_2_method_13_code 61 = .ok (.iload 10, 2) := by decide +kernel
theorem d_B_levelValue_63 : decode prog_2_method_13_code 63 = .ok (.iconst 1, 1) := by decide +kernel
theorem d_B_levelValue_64 : decode prog_2_method_13_code 64 = .ok (.isub, 1) := by decide +kernel
theorem d_B_levelValue_65 : decode prog_2_method_13_code 65 = .ok (.iaload, 1) := by decide +kernel
theorem d_B_levelValue_66 : decode prog_2_method_13_code 66 = .ok (.if_icmp .eq 6, 3) := by decide +kernel
theorem d_B_levelValue_69 : decode prog_2_method_13_code 69 = .ok (.iinc 6 1, 3) := by decide +kernel
theorem d_B_levelValue_72 : decode prog_2_method_13_code 72 = .ok (.iload 6, 2) := by decide +kernel
theorem d_B_levelValue_74 : decode prog_2_method_13_code 74 = .ok (.iload_n 2, 1) := by decide +kernel
theorem d_B_levelValue_75 : decode prog_2_method_13_code 75 = .ok (.if_icmp .ne 27, 3) := by decide +kernel
theorem d_B_levelValue_78 : decode prog_2_method_13_code 78 = .ok (.aload_n 0, 1) := by decide +kernel
theorem d_B_levelValue_79 : decode prog_2_method_13_code 79 = .ok (.getfield 15, 3) := by decide +kernel
theorem d_B_levelValue_82 : decode prog_2_method_13_code 82 = .ok (.iload 10, 2) := by decide +kernel
theorem d_B_levelValue_84 : decode prog_2_method_13_code 84 = .ok (.iaload, 1) := by decide +kernel
theorem d_B_levelValue_85 : decode prog_2_method_13_code 85 = .ok (.istore 7, 2) := by decide +kernel
theorem d_B_levelValue_87 : decode prog_2_method_13_code 87 = .ok (.iload 8, 2) := by decide +kernel
theorem d_B_levelValue_89 : decode prog_2_method_13_code 89 = .ok (.aload_n 0, 1) := by decide +kernel
theorem d_B_levelValue_90 : decode prog_2_method_13_code 90 = .ok (.getfield 18, 3) := by decide +kernel
theorem d_B_levelValue_93 : decode prog_2_method_13_code 93 = .ok (.iload 10, 2) := by decide +kernel
theorem d_B_levelValue_95 : decode prog_2_method_13_code 95 = .ok (.iaload, 1) := by decide +kernel
theorem d_B_levelValue_96 : decode prog_2_method_13_code 96 = .ok (.iadd, 1) := by decide +kernel
theorem d_B_levelValue_97 : decode prog_2_method_13_code 97 = .ok (.istore 8, 2) := by decide +kernel
theorem d_B_levelValue_99 : decode prog_2_method_13_code 99 = .ok (.iinc 9 1, 3) := by decide +kernel
theorem d_B_levelValue_102 : decode prog_2_method_13_code 102 = .ok (.iinc 10 1, 3) := by decide +kernel
theorem d_B_levelValue_105 : decode prog_2_method_13_code 105 = .ok (.goto (-75), 3) := by decide +kernel
theorem d_B_levelValue_108 : decode prog_2_method_13_code 108 = .ok (.iload 9, 2) := by decide +kernel
theorem d_B_levelValue_110 : decode prog_2_method_13_code 110 = .ok (.ifCond .ne 6, 3) := by decide +kernel
theorem d_B_levelValue_113 : decode prog_2_method_13_code 113 = .ok (.ldc 84, 2) := by decide +kernel
theorem d_B_levelValue_115 : decode prog_2_method_13_code 115 = .ok (.ireturn, 1) := by decide +kernel
theorem d_B_levelValue_116 : decode prog_2_method_13_code 116 = .ok (.iload_n 3, 1) := by decide +kernel
theorem d_B_levelValue_117 : decode prog_2_method_13_code 117 = .ok (.ifCond .ne 8, 3) := by decide +kernel
theorem d_B_levelValue_120 : decode prog_2_method_13_code 120 = .ok (.iload 7, 2) := by decide +kernel
theorem d_B_levelValue_122 : decode prog_2_method_13_code 122 = .ok (.goto 15, 3) := by decide +kernel
theorem d_B_levelValue_125 : decode prog_2_method_13_code 125 = .ok (.iload_n 3, 1) := by decide +kernel
theorem d_B_levelValue_126 : decode prog_2_method_13_code 126 = .ok (.iconst 1, 1) := by decide +kernel
theorem d_B_levelValue_127 : decode prog_2_method_13_code 127 = .ok (.if_icmp .ne 8, 3) := by decide +kernel
theorem d_B_levelValue_130 : decode prog_2_method_13_code 130 = .ok (.iload 8, 2) := by decide +kernel
theorem d_B_levelValue_132 : decode prog_2_method_13_code 132 = .ok (.goto 5, 3) := by decide +kernel
theorem d_B_levelValue_135 : decode prog_2_method_13_code 135 = .ok (.iload 9, 2) := by decide +kernel
theorem d_B_levelValue_137 : decode prog_2_method_13_code 137 = .ok (.ireturn, 1) := by decide +kernel
theorem d_W_mark_0 : decode prog_5_method_2_code 0 = .ok (.iconst 0, 1) := by decide +kernel
theorem d_W_mark_1 : decode prog_5_method_2_code 1 = .ok (.istore_n 2, 1) := by decide +kernel
theorem d_W_mark_2 : decode prog_5_method_2_code 2 = .ok (.iload_n 2, 1) := by decide +kernel
theorem d_W_mark_3 : decode prog_5_method_2_code 3 = .ok (.aload_n 0, 1) := by decide +kernel
theorem d_W_mark_4 : decode prog_5_method_2_code 4 = .ok (.getfield 15, 3) := by decide +kernel
theorem d_W_mark_7 : decode prog_5_method_2_code 7 = .ok (.if_icmp .ge 20, 3) := by decide +kernel
theorem d_W_mark_10 : decode prog_5_method_2_code 10 = .ok (.aload_n 0, 1) := by decide +kernel
theorem d_W_mark_11 : decode prog_5_method_2_code 11 = .ok (.getfield 9, 3) := by decide +kernel
theorem d_W_mark_14 : decode prog_5_method_2_code 14 = .ok (.iload_n 2, 1) := by decide +kernel
theorem d_W_mark_15 : decode prog_5_method_2_code 15 = .ok (.iaload, 1) := by decide +kernel
theorem d_W_mark_16 : decode prog_5_method_2_code 16 = .ok (.iload_n 1, 1) := by decide +kernel
theorem d_W_mark_17 : decode prog_5_method_2_code 17 = .ok (.if_icmp .ne 4, 3) := by decide +kernel
theorem d_W_mark_20 : decode prog_5_method_2_code 20 = .ok (.return_, 1) := by decide +kernel
theorem d_W_mark_21 : decode prog_5_method_2_code 21 = .ok (.iinc 2 1, 3) := by decide +kernel
theorem d_W_mark_24 : decode prog_5_method_2_code 24 = .ok (.goto (-22), 3) := by decide +kernel
theorem d_W_mark_27 : decode prog_5_method_2_code 27 = .ok (.aload_n 0, 1) := by decide +kernel
theorem d_W_mark_28 : decode prog_5_method_2_code 28 = .ok (.getfield 15, 3) := by decide +kernel
theorem d_W_mark_31 : decode prog_5_method_2_code 31 = .ok (.iconst 4, 1) := by decide +kernel
theorem d_W_mark_32 : decode prog_5_method_2_code 32 = .ok (.if_icmp .ge 23, 3) := by decide +kernel
theorem d_W_mark_35 : decode prog_5_method_2_code 35 = .ok (.aload_n 0, 1) := by decide +kernel
theorem d_W_mark_36 : decode prog_5_method_2_code 36 = .ok (.getfield 9, 3) := by decide +kernel
theorem d_W_mark_39 : decode prog_5_method_2_code 39 = .ok (.aload_n 0, 1) := by decide +kernel
theorem d_W_mark_40 : decode prog_5_method_2_code 40 = .ok (.getfield 15, 3) := by decide +kernel
theorem d_W_mark_43 : decode prog_5_method_2_code 43 = .ok (.iload_n 1, 1) := by decide +kernel
theorem d_W_mark_44 : decode prog_5_method_2_code 44 = .ok (.iastore, 1) := by decide +kernel
theorem d_W_mark_45 : decode prog_5_method_2_code 45 = .ok (.aload_n 0, 1) := by decide +kernel
theorem d_W_mark_46 : decode prog_5_method_2_code 46 = .ok (.dup, 1) := by decide +kernel
theorem d_W_mark_47 : decode prog_5_method_2_code 47 = .ok (.getfield 15, 3) := by decide +kernel
theorem d_W_mark_50 : decode prog_5_method_2_code 50 = .ok (.iconst 1, 1) := by decide +kernel
theorem d_W_mark_51 : decode prog_5_method_2_code 51 = .ok (.iadd, 1) := by decide +kernel
theorem d_W_mark_52 : decode prog_5_method_2_code 52 = .ok (.putfield 15, 3) := by decide +kernel
theorem d_W_mark_55 : decode prog_5_method_2_code 55 = .ok (.return_, 1) := by decide +kernel
theorem d_T_takeHeld_0 : decode prog_8_method_6_code 0 = .ok (.iconst 0, 1) := by decide +kernel
theorem d_T_takeHeld_1 : decode prog_8_method_6_code 1 = .ok (.istore_n 2, 1) := by decide +kernel
theorem d_T_takeHeld_2 : decode prog_8_method_6_code 2 = .ok (.iload_n 2, 1) := by decide +kernel
theorem d_T_takeHeld_3 : decode prog_8_method_6_code 3 = .ok (.aload_n 0, 1) := by decide +kernel
theorem d_T_takeHeld_4 : decode prog_8_method_6_code 4 = .ok (.getfield 32, 3) := by decide +kernel
theorem d_T_takeHeld_7 : decode prog_8_method_6_code 7 = .ok (.if_icmp .ge 55, 3) := by decide +kernel
theorem d_T_takeHeld_10 : decode prog_8_method_6_code 10 = .ok (.aload_n 0, 1) := by decide +kernel
theorem d_T_takeHeld_11 : decode prog_8_method_6_code 11 = .ok (.getfield 28, 3) := by decide +kernel
theorem d_T_takeHeld_14 : decode prog_8_method_6_code 14 = .ok (.iload_n 2, 1) := by decide +kernel
theorem d_T_takeHeld_15 : decode prog_8_method_6_code 15 = .ok (.aaload, 1) := by decide +kernel
theorem d_T_takeHeld_16 : decode prog_8_method_6_code 16 = .ok (.astore_n 3, 1) := by decide +kernel
theorem d_T_takeHeld_17 : decode prog_8_method_6_code 17 = .ok (.aload_n 3, 1) := by decide +kernel
theorem d_T_takeHeld_18 : decode prog_8_method_6_code 18 = .ok (.ifnull 38, 3) := by decide +kernel
theorem d_T_takeHeld_21 : decode prog_8_method_6_code 21 = .ok (.aload_n 3, 1) := by decide +kernel
theorem d_T_takeHeld_22 : decode prog_8_method_6_code 22 = .ok (.getfield 49, 3) := by decide +kernel
theorem d_T_takeHeld_25 : decode prog_8_method_6_code 25 = .ok (.iload_n 1, 1) := by decide +kernel
theorem d_T_takeHeld_26 : decode prog_8_method_6_code 26 = .ok (.if_icmp .ne 30, 3) := by decide +kernel
theorem d_T_takeHeld_29 : decode prog_8_method_6_code 29 = .ok (.aload_n 0, 1) := by decide +kernel
theorem d_T_takeHeld_30 : decode prog_8_method_6_code 30 = .ok (.dup, 1) := by decide +kernel
theorem d_T_takeHeld_31 : decode prog_8_method_6_code 31 = .ok (.getfield 32, 3) := by decide +kernel
theorem d_T_takeHeld_34 : decode prog_8_method_6_code 34 = .ok (.iconst 1, 1) := by decide +kernel
theorem d_T_takeHeld_35 : decode prog_8_method_6_code 35 = .ok (.isub, 1) := by decide +kernel
theorem d_T_takeHeld_36 : decode prog_8_method_6_code 36 = .ok (.putfield 32, 3) := by decide +kernel
theorem d_T_takeHeld_39 : decode prog_8_method_6_code 39 = .ok (.aload_n 0, 1) := by decide +kernel
theorem d_T_takeHeld_40 : decode prog_8_method_6_code 40 = .ok (.getfield 28, 3) := by decide +kernel
theorem d_T_takeHeld_43 : decode prog_8_method_6_code 43 = .ok (.iload_n 2, 1) := by decide +kernel
theorem d_T_takeHeld_44 : decode prog_8_method_6_code 44 = .ok (.aload_n 0, 1) := by decide +kernel
theorem d_T_takeHeld_45 : decode prog_8_method_6_code 45 = .ok (.getfield 28, 3) := by decide +kernel
theorem d_T_takeHeld_48 : decode prog_8_method_6_code 48 = .ok (.aload_n 0, 1) := by decide +kernel
theorem d_T_takeHeld_49 : decode prog_8_method_6_code 49 = .ok (.getfield 32, 3) := by decide +kernel
theorem d_T_takeHeld_52 : decode prog_8_method_6_code 52 = .ok (.aaload, 1) := by decide +kernel
theorem d_T_takeHeld_53 : decode prog_8_method_6_code 53 = .ok (.aastore, 1) := by decide +kernel
theorem d_T_takeHeld_54 : decode prog_8_method_6_code 54 = .ok (.aload_n 3, 1) := by decide +kernel
theorem d_T_takeHeld_55 : decode prog_8_method_6_code 55 = .ok (.areturn, 1) := by decide +kernel
theorem d_T_takeHeld_56 : decode prog_8_method_6_code 56 = .ok (.iinc 2 1, 3) := by decide +kernel
theorem d_T_takeHeld_59 : decode prog_8_method_6_code 59 = .ok (.goto (-57), 3) := by decide +kernel
theorem d_T_takeHeld_62 : decode prog_8_method_6_code 62 = .ok (.aconst_null, 1) := by decide +kernel
theorem d_T_takeHeld_63 : decode prog_8_method_6_code 63 = .ok (.areturn, 1) := by decide +kernel
theorem d_T_hold_0 : decode prog_8_method_5_code 0 = .ok (.iconst 0, 1) := by decide +kernel
theorem d_T_hold_1 : decode prog_8_method_5_code 1 = .ok (.istore_n 2, 1) := by decide +kernel
theorem d_T_hold_2 : decode prog_8_method_5_code 2 = .ok (.iload_n 2, 1) := by decide +kernel
theorem d_T_hold_3 : decode prog_8_method_5_code 3 = .ok (.aload_n 0, 1) := by decide +kernel
theorem d_T_hold_4 : decode prog_8_method_5_code 4 = .ok (.getfield 32, 3) := by decide +kernel
theorem d_T_hold_7 : decode prog_8_method_5_code 7 = .ok (.if_icmp .ge 35, 3) := by decide +kernel
theorem d_T_hold_10 : decode prog_8_method_5_code 10 = .ok (.aload_n 0, 1) := by decide +kernel
theorem d_T_hold_11 : decode prog_8_method_5_code 11 = .ok (.getfield 28, 3) := by decide +kernel
theorem d_T_hold_14 : decode prog_8_method_5_code 14 = .ok (.iload_n 2, 1) := by decide +kernel
theorem d_T_hold_15 : decode prog_8_method_5_code 15 = .ok (.aaload, 1) := by decide +kernel
theorem d_T_hold_16 : decode prog_8_method_5_code 16 = .ok (.ifnull 20, 3) := by decide +kernel
theorem d_T_hold_19 : decode prog_8_method_5_code 19 = .ok (.aload_n 0, 1) := by decide +kernel
theorem d_T_hold_20 : decode prog_8_method_5_code 20 = .ok (.getfield 28, 3) := by decide +kernel
theorem d_T_hold_23 : decode prog_8_method_5_code 23 = .ok (.iload_n 2, 1) := by decide +kernel
theorem d_T_hold_24 : decode prog_8_method_5_code 24 = .ok (.aaload, 1) := by decide +kernel
theorem d_T_hold_25 : decode prog_8_method_5_code 25 = .ok (.getfield 49, 3) := by decide +kernel
theorem d_T_hold_28 : decode prog_8_method_5_code 28 = .ok (.aload_n 1, 1) := by decide +kernel
theorem d_T_hold_29 : decode prog_8_method_5_code 29 = .ok (.getfield 49, 3) := by decide +kernel
theorem d_T_hold_32 : decode prog_8_method_5_code 32 = .ok (.if_icmp .ne 4, 3) := by decide +kernel
theorem d_T_hold_35 : decode prog_8_method_5_code 35 = .ok (.return_, 1) := by decide +kernel
theorem d_T_hold_36 : decode prog_8_method_5_code 36 = .ok (.iinc 2 1, 3) := by decide +kernel
theorem d_T_hold_39 : decode prog_8_method_5_code 39 = .ok (.goto (-37), 3) := by decide +kernel
theorem d_T_hold_42 : decode prog_8_method_5_code 42 = .ok (.aload_n 0, 1) := by decide +kernel
theorem d_T_hold_43 : decode prog_8_method_5_code 43 = .ok (.getfield 32, 3) := by decide +kernel
theorem d_T_hold_46 : decode prog_8_method_5_code 46 = .ok (.bipush 30, 2) := by decide +kernel
theorem d_T_hold_48 : decode prog_8_method_5_code 48 = .ok (.if_icmp .ge 23, 3) := by decide +kernel
theorem d_T_hold_51 : decode prog_8_method_5_code 51 = .ok (.aload_n 0, 1) := by decide +kernel
theorem d_T_hold_52 : decode prog_8_method_5_code 52 = .ok (.getfield 28, 3) := by decide +kernel
theorem d_T_hold_55 : decode prog_8_method_5_code 55 = .ok (.aload_n 0, 1) := by decide +kernel
theorem d_T_hold_56 : decode prog_8_method_5_code 56 = .ok (.getfield 32, 3) := by decide +kernel
theorem d_T_hold_59 : decode prog_8_method_5_code 59 = .ok (.aload_n 1, 1) := by decide +kernel
theorem d_T_hold_60 : decode prog_8_method_5_code 60 = .ok (.aastore, 1) := by decide +kernel
theorem d_T_hold_61 : decode prog_8_method_5_code 61 = .ok (.aload_n 0, 1) := by decide +kernel
theorem d_T_hold_62 : decode prog_8_method_5_code 62 = .ok (.dup, 1) := by decide +kernel
theorem d_T_hold_63 : decode prog_8_method_5_code 63 = .ok (.getfield 32, 3) := by decide +kernel
theorem d_T_hold_66 : decode prog_8_method_5_code 66 = .ok (.iconst 1, 1) := by decide +kernel
theorem d_T_hold_67 : decode prog_8_method_5_code 67 = .ok (.iadd, 1) := by decide +kernel
theorem d_T_hold_68 : decode prog_8_method_5_code 68 = .ok (.putfield 32, 3) := by decide +kernel
theorem d_T_hold_71 : decode prog_8_method_5_code 71 = .ok (.return_, 1) := by decide +kernel
theorem d_D_askReplay_0 : decode prog_1_method_11_code 0 = .ok (.iload_n 1, 1) := by decide +kernel
theorem d_D_askReplay_1 : decode prog_1_method_11_code 1 = .ok (.invokestatic 59, 3) := by decide +kernel
theorem d_D_askReplay_4 : decode prog_1_method_11_code 4 = .ok (.ifCond .eq 15, 3) := by decide +kernel
theorem d_D_askReplay_7 : decode prog_1_method_11_code 7 = .ok (.aload_n 0, 1) := by decide +kernel
theorem d_D_askReplay_8 : decode prog_1_method_11_code 8 = .ok (.getfield 11, 3) := by decide +kernel
theorem d_D_askReplay_11 : decode prog_1_method_11_code 11 = .ok (.iload_n 1, 1) := by decide +kernel
theorem d_D_askReplay_12 : decode prog_1_method_11_code 12 = .ok (.aaload, 1) := by decide +kernel
theorem d_D_askReplay_13 : decode prog_1_method_11_code 13 = .ok (.invokevirtual 66, 3) := by decide +kernel
theorem d_D_askReplay_16 : decode prog_1_method_11_code 16 = .ok (.goto 5, 3) := by decide +kernel
theorem d_D_askReplay_19 : decode prog_1_method_11_code 19 = .ok (.bipush (-2), 2) := by decide +kernel
theorem d_D_askReplay_21 : decode prog_1_method_11_code 21 = .ok (.ireturn, 1) := by decide +kernel
theorem d_V_ask_0 : decode prog_6_method_3_code 0 = .ok (.aload_n 0, 1) := by decide +kernel
theorem d_V_ask_1 : decode prog_6_method_3_code 1 = .ok (.aload_n 0, 1) := by decide +kernel
theorem d_V_ask_2 : decode prog_6_method_3_code 2 = .ok (.invokevirtual 48, 3) := by decide +kernel
theorem d_V_ask_5 : decode prog_6_method_3_code 5 = .ok (.putfield 28, 3) := by decide +kernel
theorem d_V_ask_8 : decode prog_6_method_3_code 8 = .ok (.iconst 0, 1) := by decide +kernel
theorem d_V_ask_9 : decode prog_6_method_3_code 9 = .ok (.aload_n 0, 1) := by decide +kernel
theorem d_V_ask_10 : decode prog_6_method_3_code 10 = .ok (.getfield 28, 3) := by decide +kernel
theorem d_V_ask_13 : decode prog_6_method_3_code 13 = .ok (.aload_n 0, 1) := by decide +kernel
theorem d_V_ask_14 : decode prog_6_method_3_code 14 = .ok (.getfield 17, 3) := by decide +kernel
theorem d_V_ask_17 : decode prog_6_method_3_code 17 = .ok (.isub, 1) := by decide +kernel
theorem d_V_ask_18 : decode prog_6_method_3_code 18 = .ok (.iconst 1, 1) := by decide +kernel
theorem d_V_ask_19 : decode prog_6_method_3_code 19 = .ok (.iadd, 1) := by decide +kernel
theorem d_V_ask_20 : decode prog_6_method_3_code 20 = .ok (.invokestatic 38, 3) := by decide +kernel
theorem d_V_ask_23 : decode prog_6_method_3_code 23 = .ok (.ireturn, 1) := by decide +kernel
theorem d_V_lastOfGap_0 : decode prog_6_method_5_code 0 = .ok (.aload_n 0, 1) := by decide +kernel
theorem d_V_lastOfGap_1 : decode prog_6_method_5_code 1 = .ok (.getfield 17, 3) := by decide +kernel
theorem d_V_lastOfGap_4 : decode prog_6_method_5_code 4 = .ok (.iconst 1, 1) := by decide +kernel
theorem d_V_lastOfGap_5 : decode prog_6_method_5_code 5 = .ok (.iadd, 1) := by decide +kernel
theorem d_V_lastOfGap_6 : decode prog_6_method_5_code 6 = .ok (.istore_n 1, 1) := by decide +kernel
theorem d_V_lastOfGap_7 : decode prog_6_method_5_code 7 = .ok (.iload_n 1, 1) := by decide +kernel
theorem d_V_lastOfGap_8 : decode prog_6_method_5_code 8 = .ok (.aload_n 0, 1) := by decide +kernel
theorem d_V_lastOfGap_9 : decode prog_6_method_5_code 9 = .ok (.getfield 17, 3) := by decide +kernel
theorem d_V_lastOfGap_12 : decode prog_6_method_5_code 12 = .ok (.bipush 6, 2) := by decide +kernel
theorem d_V_lastOfGap_14 : decode prog_6_method_5_code 14 = .ok (.iadd, 1) := by decide +kernel
theorem d_V_lastOfGap_15 : decode prog_6_method_5_code 15 = .ok (.if_icmp .gt 25, 3) := by decide +kernel
theorem d_V_lastOfGap_18 : decode prog_6_method_5_code 18 = .ok (.aload_n 0, 1) := by decide +kernel
theorem d_V_lastOfGap_19 : decode prog_6_method_5_code 19 = .ok (.getfield 24, 3) := by decide +kernel
theorem d_V_lastOfGap_22 : decode prog_6_method_5_code 22 = .ok (.iload_n 1, 1) := by decide +kernel
theorem d_V_lastOfGap_23 : decode prog_6_method_5_code 23 = .ok (.bipush 7, 2) := by decide +kernel
theorem d_V_lastOfGap_25 : decode prog_6_method_5_code 25 = .ok (.iand, 1) := by decide +kernel
theorem d_V_lastOfGap_26 : decode prog_6_method_5_code 26 = .ok (.baload, 1) := by decide +kernel
theorem d_V_lastOfGap_27 : decode prog_6_method_5_code 27 = .ok (.ifCond .eq 7, 3) := by decide +kernel
theorem d_V_lastOfGap_30 : decode prog_6_method_5_code 30 = .ok (.iload_n 1, 1) := by decide +kernel
theorem d_V_lastOfGap_31 : decode prog_6_method_5_code 31 = .ok (.iconst 1, 1) := by decide +kernel
theorem d_V_lastOfGap_32 : decode prog_6_method_5_code 32 = .ok (.isub, 1) := by decide +kernel
theorem d_V_lastOfGap_33 : decode prog_6_method_5_code 33 = .ok (.ireturn, 1) := by decide +kernel
theorem d_V_lastOfGap_34 : decode prog_6_method_5_code 34 = .ok (.iinc 1 1, 3) := by decide +kernel
theorem d_V_lastOfGap_37 : decode prog_6_method_5_code 37 = .ok (.goto (-30), 3) := by decide +kernel
theorem d_V_lastOfGap_40 : decode prog_6_method_5_code 40 = .ok (.aload_n 0, 1) := by decide +kernel
theorem d_V_lastOfGap_41 : decode prog_6_method_5_code 41 = .ok (.getfield 21, 3) := by decide +kernel
theorem d_V_lastOfGap_44 : decode prog_6_method_5_code 44 = .ok (.ireturn, 1) := by decide +kernel
theorem d_D_serveReplay_0 : decode prog_1_method_12_code 0 = .ok (.iload_n 1, 1) := by decide +kernel
theorem d_D_serveReplay_1 : decode prog_1_method_12_code 1 = .ok (.invokestatic 59, 3) := by decide +kernel
theorem d_D_serveReplay_4 : decode prog_1_method_12_code 4 = .ok (.ifCond .eq 15, 3) := by decide +kernel
theorem d_D_serveReplay_7 : decode prog_1_method_12_code 7 = .ok (.aload_n 0, 1) := by decide +kernel
theorem d_D_serveReplay_8 : decode prog_1_method_12_code 8 = .ok (.getfield 11, 3) := by decide +kernel
theorem d_D_serveReplay_11 : decode prog_1_method_12_code 11 = .ok (.iload_n 1, 1) := by decide +kernel
theorem d_D_serveReplay_12 : decode prog_1_method_12_code 12 = .ok (.aaload, 1) := by decide +kernel
theorem d_D_serveReplay_13 : decode prog_1_method_12_code 13 = .ok (.invokevirtual 69, 3) := by decide +kernel
theorem d_D_serveReplay_16 : decode prog_1_method_12_code 16 = .ok (.goto 5, 3) := by decide +kernel
theorem d_D_serveReplay_19 : decode prog_1_method_12_code 19 = .ok (.bipush (-2), 2) := by decide +kernel
theorem d_D_serveReplay_21 : decode prog_1_method_12_code 21 = .ok (.ireturn, 1) := by decide +kernel
theorem d_V_takeAnswer_0 : decode prog_6_method_4_code 0 = .ok (.aload_n 0, 1) := by decide +kernel
theorem d_V_takeAnswer_1 : decode prog_6_method_4_code 1 = .ok (.getfield 28, 3) := by decide +kernel
theorem d_V_takeAnswer_4 : decode prog_6_method_4_code 4 = .ok (.istore_n 1, 1) := by decide +kernel
theorem d_V_takeAnswer_5 : decode prog_6_method_4_code 5 = .ok (.aload_n 0, 1) := by decide +kernel
theorem d_V_takeAnswer_6 : decode prog_6_method_4_code 6 = .ok (.iconst 0, 1) := by decide +kernel
theorem d_V_takeAnswer_7 : decode prog_6_method_4_code 7 = .ok (.putfield 28, 3) := by decide +kernel
theorem d_V_takeAnswer_10 : decode prog_6_method_4_code 10 = .ok (.iload_n 1, 1) := by decide +kernel
theorem d_V_takeAnswer_11 : decode prog_6_method_4_code 11 = .ok (.aload_n 0, 1) := by decide +kernel
theorem d_V_takeAnswer_12 : decode prog_6_method_4_code 12 = .ok (.getfield 17, 3) := by decide +kernel
theorem d_V_takeAnswer_15 : decode prog_6_method_4_code 15 = .ok (.if_icmp .ge 5, 3) := by decide +kernel
theorem d_V_takeAnswer_18 : decode prog_6_method_4_code 18 = .ok (.iconst 0, 1) := by decide +kernel
theorem d_V_takeAnswer_19 : decode prog_6_method_4_code 19 = .ok (.ireturn, 1) := by decide +kernel
theorem d_V_takeAnswer_20 : decode prog_6_method_4_code 20 = .ok (.aload_n 0, 1) := by decide +kernel
theorem d_V_takeAnswer_21 : decode prog_6_method_4_code 21 = .ok (.getfield 31, 3) := by decide +kernel
theorem d_V_takeAnswer_24 : decode prog_6_method_4_code 24 = .ok (.aload_n 0, 1) := by decide +kernel
theorem d_V_takeAnswer_25 : decode prog_6_method_4_code 25 = .ok (.getfield 17, 3) := by decide +kernel
theorem d_V_takeAnswer_28 : decode prog_6_method_4_code 28 = .ok (.invokevirtual 52, 3) := by decide +kernel
theorem d_V_takeAnswer_31 : decode prog_6_method_4_code 31 = .ok (.ifCond .ne 7, 3) := by decide +kernel
theorem d_V_takeAnswer_34 : decode prog_6_method_4_code 34 = .ok (.iconst 1, 1) := by decide +kernel
theorem d_V_takeAnswer_35 : decode prog_6_method_4_code 35 = .ok (.goto 4, 3) := by decide +kernel
theorem d_V_takeAnswer_38 : decode prog_6_method_4_code 38 = .ok (.iconst 0, 1) := by decide +kernel
theorem d_V_takeAnswer_39 : decode prog_6_method_4_code 39 = .ok (.istore_n 2, 1) := by decide +kernel
theorem d_V_takeAnswer_40 : decode prog_6_method_4_code 40 = .ok (.iload_n 2, 1) := by decide +kernel
theorem d_V_takeAnswer_41 : decode prog_6_method_4_code 41 = .ok (.ifCond .eq 8, 3) := by decide +kernel
theorem d_V_takeAnswer_44 : decode prog_6_method_4_code 44 = .ok (.aload_n 0, 1) := by decide +kernel
theorem d_V_takeAnswer_45 : decode prog_6_method_4_code 45 = .ok (.iload_n 1, 1) := by decide +kernel
theorem d_V_takeAnswer_46 : decode prog_6_method_4_code 46 = .ok (.invokevirtual 58, 3) := by decide +kernel
theorem d_V_takeAnswer_49 : decode prog_6_method_4_code 49 = .ok (.aload_n 0, 1) := by decide +kernel
theorem d_V_takeAnswer_50 : decode prog_6_method_4_code 50 = .ok (.iload_n 1, 1) := by decide +kernel
theorem d_V_takeAnswer_51 : decode prog_6_method_4_code 51 = .ok (.invokevirtual 44, 3) := by decide +kernel
theorem d_V_takeAnswer_54 : decode prog_6_method_4_code 54 = .ok (.iload_n 2, 1) := by decide +kernel
theorem d_V_takeAnswer_55 : decode prog_6_method_4_code 55 = .ok (.ifCond .eq 7, 3) := by decide +kernel
theorem d_V_takeAnswer_58 : decode prog_6_method_4_code 58 = .ok (.iconst 2, 1) := by decide +kernel
theorem d_V_takeAnswer_59 : decode prog_6_method_4_code 59 = .ok (.goto 4, 3) := by decide +kernel
theorem d_V_takeAnswer_62 : decode prog_6_method_4_code 62 = .ok (.iconst 1, 1) := by decide +kernel
theorem d_V_takeAnswer_63 : decode prog_6_method_4_code 63 = .ok (.ireturn, 1) := by decide +kernel
theorem d_P_canReplayFrom_0 : decode prog_4_method_7_code 0 = .ok (.aload_n 0, 1) := by decide +kernel
theorem d_P_canReplayFrom_1 : decode prog_4_method_7_code 1 = .ok (.iload_n 1, 1) := by decide +kernel
theorem d_P_canReplayFrom_2 : decode prog_4_method_7_code 2 = .ok (.invokevirtual 62, 3) := by decide +kernel
theorem d_P_canReplayFrom_5 : decode prog_4_method_7_code 5 = .ok (.aload_n 0, 1) := by decide +kernel
theorem d_P_canReplayFrom_6 : decode prog_4_method_7_code 6 = .ok (.aload_n 0, 1) := by decide +kernel
theorem d_P_canReplayFrom_7 : decode prog_4_method_7_code 7 = .ok (.getfield 31, 3) := by decide +kernel
theorem d_P_canReplayFrom_10 : decode prog_4_method_7_code 10 = .ok (.invokevirtual 66, 3) := by decide +kernel
theorem d_P_canReplayFrom_13 : decode prog_4_method_7_code 13 = .ok (.bipush 40, 2) := by decide +kernel
theorem d_P_canReplayFrom_15 : decode prog_4_method_7_code 15 = .ok (.isub, 1) := by decide +kernel
theorem d_P_canReplayFrom_16 : decode prog_4_method_7_code 16 = .ok (.if_icmp .lt 7, 3) := by decide +kernel
theorem d_P_canReplayFrom_19 : decode prog_4_method_7_code 19 = .ok (.iconst 1, 1) := by decide +kernel
theorem d_P_canReplayFrom_20 : decode prog_4_method_7_code 20 = .ok (.goto 4, 3) := by decide +kernel
theorem d_P_canReplayFrom_23 : decode prog_4_method_7_code 23 = .ok (.iconst 0, 1) := by decide +kernel
theorem d_P_canReplayFrom_24 : decode prog_4_method_7_code 24 = .ok (.ireturn, 1) := by decide +kernel
theorem d_V_giveUp_0 : decode prog_6_method_7_code 0 = .ok (.aload_n 0, 1) := by decide +kernel
theorem d_V_giveUp_1 : decode prog_6_method_7_code 1 = .ok (.getfield 17, 3) := by decide +kernel
theorem d_V_giveUp_4 : decode prog_6_method_7_code 4 = .ok (.istore_n 2, 1) := by decide +kernel
theorem d_V_giveUp_5 : decode prog_6_method_7_code 5 = .ok (.iload_n 2, 1) := by decide +kernel
theorem d_V_giveUp_6 : decode prog_6_method_7_code 6 = .ok (.iload_n 1, 1) := by decide +kernel
theorem d_V_giveUp_7 : decode prog_6_method_7_code 7 = .ok (.if_icmp .gt 30, 3) := by decide +kernel
theorem d_V_giveUp_10 : decode prog_6_method_7_code 10 = .ok (.iload_n 2, 1) := by decide +kernel
theorem d_V_giveUp_11 : decode prog_6_method_7_code 11 = .ok (.aload_n 0, 1) := by decide +kernel
theorem d_V_giveUp_12 : decode prog_6_method_7_code 12 = .ok (.getfield 17, 3) := by decide +kernel
theorem d_V_giveUp_15 : decode prog_6_method_7_code 15 = .ok (.bipush 6, 2) := by decide +kernel
theorem d_V_giveUp_17 : decode prog_6_method_7_code 17 = .ok (.iadd, 1) := by decide +kernel
theorem d_V_giveUp_18 : decode prog_6_method_7_code 18 = .ok (.if_icmp .gt 19, 3) := by decide +kernel
theorem d_V_giveUp_21 : decode prog_6_method_7_code 21 = .ok (.aload_n 0, 1) := by decide +kernel
theorem d_V_giveUp_22 : decode prog_6_method_7_code 22 = .ok (.getfield 24, 3) := by decide +kernel
theorem d_V_giveUp_25 : decode prog_6_method_7_code 25 = .ok (.iload_n 2, 1) := by decide +kernel
theorem d_V_giveUp_26 : decode prog_6_method_7_code 26 = .ok (.bipush 7, 2) := by decide +kernel
theorem d_V_giveUp_28 : decode prog_6_method_7_code 28 = .ok (.iand, 1) := by decide +kernel
theorem d_V_giveUp_29 : decode prog_6_method_7_code 29 = .ok (.iconst 0, 1) := by decide +kernel
theorem d_V_giveUp_30 : decode prog_6_method_7_code 30 = .ok (.bastore, 1) := by decide +kernel
theorem d_V_giveUp_31 : decode prog_6_method_7_code 31 = .ok (.iinc 2 1, 3) := by decide +kernel
theorem d_V_giveUp_34 : decode prog_6_method_7_code 34 = .ok (.goto (-29), 3) := by decide +kernel
theorem d_V_giveUp_37 : decode prog_6_method_7_code 37 = .ok (.iconst 0, 1) := by decide +kernel
theorem d_V_giveUp_38 : decode prog_6_method_7_code 38 = .ok (.istore_n 2, 1) := by decide +kernel
theorem d_V_giveUp_39 : decode prog_6_method_7_code 39 = .ok (.iload_n 2, 1) := by decide +kernel
theorem d_V_giveUp_40 : decode prog_6_method_7_code 40 = .ok (.iconst 4, 1) := by decide +kernel
theorem d_V_giveUp_41 : decode prog_6_method_7_code 41 = .ok (.if_icmp .ge 19, 3) := by decide +kernel
theorem d_V_giveUp_44 : decode prog_6_method_7_code 44 = .ok (.aload_n 0, 1) := by decide +kernel
theorem d_V_giveUp_45 : decode prog_6_method_7_code 45 = .ok (.getfield 11, 3) := by decide +kernel
theorem d_V_giveUp_48 : decode prog_6_method_7_code 48 = .ok (.iload_n 2, 1) := by decide +kernel
theorem d_V_giveUp_49 : decode prog_6_method_7_code 49 = .ok (.aaload, 1) := by decide +kernel
theorem d_V_giveUp_50 : decode prog_6_method_7_code 50 = .ok (.iload_n 1, 1) := by decide +kernel
theorem d_V_giveUp_51 : decode prog_6_method_7_code 51 = .ok (.putfield 84, 3) := by decide +kernel
theorem d_V_giveUp_54 : decode prog_6_method_7_code 54 = .ok (.iinc 2 1, 3) := by decide +kernel
theorem d_V_giveUp_57 : decode prog_6_method_7_code 57 = .ok (.goto (-18), 3) := by decide +kernel
theorem d_V_giveUp_60 : decode prog_6_method_7_code 60 = .ok (.aload_n 0, 1) := by decide +kernel
theorem d_V_giveUp_61 : decode prog_6_method_7_code 61 = .ok (.iload_n 1, 1) := by decide +kernel
theorem d_V_giveUp_62 : decode prog_6_method_7_code 62 = .ok (.iconst 1, 1) := by decide +kernel
theorem d_V_giveUp_63 : decode prog_6_method_7_code 63 = .ok (.iadd, 1) := by decide +kernel
theorem d_V_giveUp_64 : decode prog_6_method_7_code 64 = .ok (.putfield 17, 3) := by decide +kernel
theorem d_V_giveUp_67 : decode prog_6_method_7_code 67 = .ok (.return_, 1) := by decide +kernel
theorem d_D_snapshotTurn_0 : decode prog_1_method_13_code 0 = .ok (.aload_n 0, 1) := by decide +kernel
theorem d_D_snapshotTurn_1 : decode prog_1_method_13_code 1 = .ok (.getfield 24, 3) := by decide +kernel
theorem d_D_snapshotTurn_4 : decode prog_1_method_13_code 4 = .ok (.invokevirtual 72, 3) := by decide +kernel
theorem d_D_snapshotTurn_7 : decode prog_1_method_13_code 7 = .ok (.ireturn, 1) := by decide +kernel
theorem d_P_makeSnapshot_0 : decode prog_4_method_9_code 0 = .ok (.aload_n 0, 1) := by decide +kernel
theorem d_P_makeSnapshot_1 : decode prog_4_method_9_code 1 = .ok (.getfield 40, 3) := by decide +kernel
theorem d_P_makeSnapshot_4 : decode prog_4_method_9_code 4 = .ok (.iconst 3, 1) := by decide +kernel
theorem d_P_makeSnapshot_5 : decode prog_4_method_9_code 5 = .ok (.iand, 1) := by decide +kernel
theorem d_P_makeSnapshot_6 : decode prog_4_method_9_code 6 = .ok (.istore_n 1, 1) := by decide +kernel
theorem d_P_makeSnapshot_7 : decode prog_4_method_9_code 7 = .ok (.aload_n 0, 1) := by decide +kernel
theorem d_P_makeSnapshot_8 : decode prog_4_method_9_code 8 = .ok (.dup, 1) := by decide +kernel
theorem d_P_makeSnapshot_9 : decode prog_4_method_9_code 9 = .ok (.getfield 40, 3) := by decide +kernel
theorem d_P_makeSnapshot_12 : decode prog_4_method_9_code 12 = .ok (.iconst 1, 1) := by decide +kernel
theorem d_P_makeSnapshot_13 : decode prog_4_method_9_code 13 = .ok (.iadd, 1) := by decide +kernel
theorem d_P_makeSnapshot_14 : decode prog_4_method_9_code 14 = .ok (.putfield 40, 3) := by decide +kernel
theorem d_P_makeSnapshot_17 : decode prog_4_method_9_code 17 = .ok (.aload_n 0, 1) := by decide +kernel
theorem d_P_makeSnapshot_18 : decode prog_4_method_9_code 18 = .ok (.aload_n 0, 1) := by decide +kernel
theorem d_P_makeSnapshot_19 : decode prog_4_method_9_code 19 = .ok (.getfield 40, 3) := by decide +kernel
theorem d_P_makeSnapshot_22 : decode prog_4_method_9_code 22 = .ok (.invokevirtual 80, 3) := by decide +kernel
theorem d_P_makeSnapshot_25 : decode prog_4_method_9_code 25 = .ok (.iload_n 1, 1) := by decide +kernel
theorem d_P_makeSnapshot_26 : decode prog_4_method_9_code 26 = .ok (.aload_n 0, 1) := by decide +kernel
theorem d_P_makeSnapshot_27 : decode prog_4_method_9_code 27 = .ok (.getfield 11, 3) := by decide +kernel
theorem d_P_makeSnapshot_30 : decode prog_4_method_9_code 30 = .ok (.iload_n 1, 1) := by decide +kernel
theorem d_P_makeSnapshot_31 : decode prog_4_method_9_code 31 = .ok (.aaload, 1) := by decide +kernel
theorem d_P_makeSnapshot_32 : decode prog_4_method_9_code 32 = .ok (.aload_n 0, 1) := by decide +kernel
theorem d_P_makeSnapshot_33 : decode prog_4_method_9_code 33 = .ok (.getfield 31, 3) := by decide +kernel
theorem d_P_makeSnapshot_36 : decode prog_4_method_9_code 36 = .ok (.invokevirtual 84, 3) := by decide +kernel
theorem d_P_makeSnapshot_39 : decode prog_4_method_9_code 39 = .ok (.aload_n 0, 1) := by decide +kernel
theorem d_P_makeSnapshot_40 : decode prog_4_method_9_code 40 = .ok (.getfield 40, 3) := by decide +kernel
theorem d_P_makeSnapshot_43 : decode prog_4_method_9_code 43 = .ok (.ireturn, 1) := by decide +kernel
theorem d_P_snapshot_0 : decode prog_4_method_11_code 0 = .ok (.aload_n 0, 1) := by decide +kernel
theorem d_P_snapshot_1 : decode prog_4_method_11_code 1 = .ok (.getfield 36, 3) := by decide +kernel
theorem d_P_snapshot_4 : decode prog_4_method_11_code 4 = .ok (.iload_n 1, 1) := by decide +kernel
theorem d_P_snapshot_5 : decode prog_4_method_11_code 5 = .ok (.bipush 7, 2) := by decide +kernel
theorem d_P_snapshot_7 : decode prog_4_method_11_code 7 = .ok (.iand, 1) := by decide +kernel
theorem d_P_snapshot_8 : decode prog_4_method_11_code 8 = .ok (.aaload, 1) := by decide +kernel
theorem d_P_snapshot_9 : decode prog_4_method_11_code 9 = .ok (.areturn, 1) := by decide +kernel
theorem d_S_fix_0 : decode prog_7_method_2_code 0 = .ok (.aload_n 0, 1) := by decide +kernel
theorem d_S_fix_1 : decode prog_7_method_2_code 1 = .ok (.iload_n 1, 1) := by decide +kernel
theorem d_S_fix_2 : decode prog_7_method_2_code 2 = .ok (.putfield 18, 3) := by decide +kernel
theorem d_S_fix_5 : decode prog_7_method_2_code 5 = .ok (.aload_n 0, 1) := by decide +kernel
theorem d_S_fix_6 : decode prog_7_method_2_code 6 = .ok (.getfield 12, 3) := by decide +kernel
theorem d_S_fix_9 : decode prog_7_method_2_code 9 = .ok (.aload_n 2, 1) := by decide +kernel
theorem d_S_fix_10 : decode prog_7_method_2_code 10 = .ok (.invokevirtual 25, 3) := by decide +kernel
theorem d_S_fix_13 : decode prog_7_method_2_code 13 = .ok (.aload_n 0, 1) := by decide +kernel
theorem d_S_fix_14 : decode prog_7_method_2_code 14 = .ok (.iload_n 3, 1) := by decide +kernel
theorem d_S_fix_15 : decode prog_7_method_2_code 15 = .ok (.putfield 22, 3) := by decide +kernel
theorem d_S_fix_18 : decode prog_7_method_2_code 18 = .ok (.return_, 1) := by decide +kernel
theorem d_B_become_0 : decode prog_2_method_8_code 0 = .ok (.aload_n 1, 1) := by decide +kernel
theorem d_B_become_1 : decode prog_2_method_8_code 1 = .ok (.getfield 9, 3) := by decide +kernel
theorem d_B_become_4 : decode prog_2_method_8_code 4 = .ok (.iconst 0, 1) := by decide +kernel
theorem d_B_become_5 : decode prog_2_method_8_code 5 = .ok (.aload_n 0, 1) := by decide +kernel
theorem d_B_become_6 : decode prog_2_method_8_code 6 = .ok (.getfield 9, 3) := by decide +kernel
theorem d_B_become_9 : decode prog_2_method_8_code 9 = .ok (.iconst 0, 1) := by decide +kernel
theorem d_B_become_10 : decode prog_2_method_8_code 10 = .ok (.aload_n 1, 1) := by decide +kernel
theorem d_B_become_11 : decode prog_2_method_8_code 11 = .ok (.getfield 25, 3) := by decide +kernel
theorem d_B_become_14 : decode prog_2_method_8_code 14 = .ok (.invokestatic 74, 3) := by decide +kernel
theorem d_B_become_17 : decode prog_2_method_8_code 17 = .ok (.aload_n 1, 1) := by decide +kernel
theorem d_B_become_18 : decode prog_2_method_8_code 18 = .ok (.getfield 15, 3) := by decide +kernel
theorem d_B_become_21 : decode prog_2_method_8_code 21 = .ok (.iconst 0, 1) := by decide +kernel
theorem d_B_become_22 : decode prog_2_method_8_code 22 = .ok (.aload_n 0, 1) := by decide +kernel
theorem d_B_become_23 : decode prog_2_method_8_code 23 = .ok (.getfield 15, 3) := by decide +kernel
theorem d_B_become_26 : decode prog_2_method_8_code 26 = .ok (.iconst 0, 1) := by decide +kernel
theorem d_B_become_27 : decode prog_2_method_8_code 27 = .ok (.aload_n 1, 1) := by decide +kernel
theorem d_B_become_28 : decode prog_2_method_8_code 28 = .ok (.getfield 25, 3) := by decide +kernel
theorem d_B_become_31 : decode prog_2_method_8_code 31 = .ok (.invokestatic 74, 3) := by decide +kernel
theorem d_B_become_34 : decode prog_2_method_8_code 34 = .ok (.aload_n 1, 1) := by decide +kernel
theorem d_B_become_35 : decode prog_2_method_8_code 35 = .ok (.getfield 18, 3) := by decide +kernel
theorem d_B_become_38 : decode prog_2_method_8_code 38 = .ok (.iconst 0, 1) := by decide +kernel
theorem d_B_become_39 : decode prog_2_method_8_code 39 = .ok (.aload_n 0, 1) := by decide +kernel
theorem d_B_become_40 : decode prog_2_method_8_code 40 = .ok (.getfield 18, 3) := by decide +kernel
theorem d_B_become_43 : decode prog_2_method_8_code 43 = .ok (.iconst 0, 1) := by decide +kernel
theorem d_B_become_44 : decode prog_2_method_8_code 44 = .ok (.aload_n 1, 1) := by decide +kernel
theorem d_B_become_45 : decode prog_2_method_8_code 45 = .ok (.getfield 25, 3) := by decide +kernel
theorem d_B_become_48 : decode prog_2_method_8_code 48 = .ok (.invokestatic 74, 3) := by decide +kernel
theorem d_B_become_51 : decode prog_2_method_8_code 51 = .ok (.aload_n 0, 1) := by decide +kernel
theorem d_B_become_52 : decode prog_2_method_8_code 52 = .ok (.aload_n 1, 1) := by decide +kernel
theorem d_B_become_53 : decode prog_2_method_8_code 53 = .ok (.getfield 21, 3) := by decide +kernel
theorem d_B_become_56 : decode prog_2_method_8_code 56 = .ok (.putfield 21, 3) := by decide +kernel
theorem d_B_become_59 : decode prog_2_method_8_code 59 = .ok (.aload_n 0, 1) := by decide +kernel
theorem d_B_become_60 : decode prog_2_method_8_code 60 = .ok (.aload_n 1, 1) := by decide +kernel
theorem d_B_become_61 : decode prog_2_method_8_code 61 = .ok (.getfield 25, 3) := by decide +kernel
theorem d_B_become_64 : decode prog_2_method_8_code 64 = .ok (.putfield 25, 3) := by decide +kernel
theorem d_B_become_67 : decode prog_2_method_8_code 67 = .ok (.aload_n 0, 1) := by decide +kernel
theorem d_B_become_68 : decode prog_2_method_8_code 68 = .ok (.aload_n 1, 1) := by decide +kernel
theorem d_B_become_69 : decode prog_2_method_8_code 69 = .ok (.getfield 28, 3) := by decide +kernel
theorem d_B_become_72 : decode prog_2_method_8_code 72 = .ok (.putfield 28, 3) := by decide +kernel
theorem d_B_become_75 : decode prog_2_method_8_code 75 = .ok (.aload_n 0, 1) := by decide +kernel
theorem d_B_become_76 : decode prog_2_method_8_code 76 = .ok (.aload_n 1, 1) := by decide +kernel
theorem d_B_become_77 : decode prog_2_method_8_code 77 = .ok (.getfield 32, 3) := by decide +kernel
theorem d_B_become_80 : decode prog_2_method_8_code 80 = .ok (.putfield 32, 3) := by decide +kernel
theorem d_B_become_83 : decode prog_2_method_8_code 83 = .ok (.return_, 1) := by decide +kernel
theorem d_D_hearSnapshot_0 : decode prog_1_method_14_code 0 = .ok (.aload_n 0, 1) := by decide +kernel
theorem d_D_hearSnapshot_1 : decode prog_1_method_14_code 1 = .ok (.getfield 24, 3) := by decide +kernel
theorem d_D_hearSnapshot_4 : decode prog_1_method_14_code 4 = .ok (.iload_n 1, 1) := by decide +kernel
theorem d_D_hearSnapshot_5 : decode prog_1_method_14_code 5 = .ok (.invokevirtual 75, 3) := by decide +kernel
theorem d_D_hearSnapshot_8 : decode prog_1_method_14_code 8 = .ok (.ifCond .eq 10, 3) := by decide +kernel
theorem d_D_hearSnapshot_11 : decode prog_1_method_14_code 11 = .ok (.iload_n 2, 1) := by decide +kernel
theorem d_D_hearSnapshot_12 : decode prog_1_method_14_code 12 = .ok (.invokestatic 59, 3) := by decide +kernel
theorem d_D_hearSnapshot_15 : decode prog_1_method_14_code 15 = .ok (.ifCond .ne 6, 3) := by decide +kernel
theorem d_D_hearSnapshot_18 : decode prog_1_method_14_code 18 = .ok (.bipush (-2), 2) := by decide +kernel
theorem d_D_hearSnapshot_20 : decode prog_1_method_14_code 20 = .ok (.ireturn, 1) := by decide +kernel
theorem d_D_hearSnapshot_21 : decode prog_1_method_14_code 21 = .ok (.aload_n 0, 1) := by decide +kernel
theorem d_D_hearSnapshot_22 : decode prog_1_method_14_code 22 = .ok (.getfield 24, 3) := by decide +kernel
theorem d_D_hearSnapshot_25 : decode prog_1_method_14_code 25 = .ok (.iload_n 1, 1) := by decide +kernel
theorem d_D_hearSnapshot_26 : decode prog_1_method_14_code 26 = .ok (.invokevirtual 78, 3) := by decide +kernel
theorem d_D_hearSnapshot_29 : decode prog_1_method_14_code 29 = .ok (.astore 4, 2) := by decide +kernel
theorem d_D_hearSnapshot_31 : decode prog_1_method_14_code 31 = .ok (.aload 4, 2) := by decide +kernel
theorem d_D_hearSnapshot_33 : decode prog_1_method_14_code 33 = .ok (.iload_n 3, 1) := by decide +kernel
theorem d_D_hearSnapshot_34 : decode prog_1_method_14_code 34 = .ok (.invokevirtual 82, 3) := by decide +kernel
theorem d_D_hearSnapshot_37 : decode prog_1_method_14_code 37 = .ok (.ifCond .eq 5, 3) := by decide +kernel
theorem d_D_hearSnapshot_40 : decode prog_1_method_14_code 40 = .ok (.iconst 0, 1) := by decide +kernel
theorem d_D_hearSnapshot_41 : decode prog_1_method_14_code 41 = .ok (.ireturn, 1) := by decide +kernel
theorem d_D_hearSnapshot_42 : decode prog_1_method_14_code 42 = .ok (.aload_n 0, 1) := by decide +kernel
theorem d_D_hearSnapshot_43 : decode prog_1_method_14_code 43 = .ok (.getfield 11, 3) := by decide +kernel
theorem d_D_hearSnapshot_46 : decode prog_1_method_14_code 46 = .ok (.iload_n 2, 1) := by decide +kernel
theorem d_D_hearSnapshot_47 : decode prog_1_method_14_code 47 = .ok (.aaload, 1) := by decide +kernel
theorem d_D_hearSnapshot_48 : decode prog_1_method_14_code 48 = .ok (.getfield 87, 3) := by decide +kernel
theorem d_D_hearSnapshot_51 : decode prog_1_method_14_code 51 = .ok (.aload 4, 2) := by decide +kernel
theorem d_D_hearSnapshot_53 : decode prog_1_method_14_code 53 = .ok (.getfield 91, 3) := by decide +kernel
theorem d_D_hearSnapshot_56 : decode prog_1_method_14_code 56 = .ok (.aaload, 1) := by decide +kernel
theorem d_D_hearSnapshot_57 : decode prog_1_method_14_code 57 = .ok (.aload 4, 2) := by decide +kernel
theorem d_D_hearSnapshot_59 : decode prog_1_method_14_code 59 = .ok (.invokevirtual 95, 3) := by decide +kernel
theorem d_D_hearSnapshot_62 : decode prog_1_method_14_code 62 = .ok (.ireturn, 1) := by decide +kernel
theorem d_P_canHear_0 : decode prog_4_method_10_code 0 = .ok (.iload_n 1, 1) := by decide +kernel
theorem d_P_canHear_1 : decode prog_4_method_10_code 1 = .ok (.iconst 1, 1) := by decide +kernel
theorem d_P_canHear_2 : decode prog_4_method_10_code 2 = .ok (.if_icmp .lt 26, 3) := by decide +kernel
theorem d_P_canHear_5 : decode prog_4_method_10_code 5 = .ok (.iload_n 1, 1) := by decide +kernel
theorem d_P_canHear_6 : decode prog_4_method_10_code 6 = .ok (.aload_n 0, 1) := by decide +kernel
theorem d_P_canHear_7 : decode prog_4_method_10_code 7 = .ok (.getfield 40, 3) := by decide +kernel
theorem d_P_canHear_10 : decode prog_4_method_10_code 10 = .ok (.if_icmp .gt 18, 3) := by decide +kernel
theorem d_P_canHear_13 : decode prog_4_method_10_code 13 = .ok (.iload_n 1, 1) := by decide +kernel
theorem d_P_canHear_14 : decode prog_4_method_10_code 14 = .ok (.aload_n 0, 1) := by decide +kernel
theorem d_P_canHear_15 : decode prog_4_method_10_code 15 = .ok (.getfield 40, 3) := by decide +kernel
theorem d_P_canHear_18 : decode prog_4_method_10_code 18 = .ok (.bipush 8, 2) := by decide +kernel
theorem d_P_canHear_20 : decode prog_4_method_10_code 20 = .ok (.isub, 1) := by decide +kernel
theorem d_P_canHear_21 : decode prog_4_method_10_code 21 = .ok (.if_icmp .le 7, 3) := by decide +kernel
theorem d_P_canHear_24 : decode prog_4_method_10_code 24 = .ok (.iconst 1, 1) := by decide +kernel
theorem d_P_canHear_25 : decode prog_4_method_10_code 25 = .ok (.goto 4, 3) := by decide +kernel
theorem d_P_canHear_28 : decode prog_4_method_10_code 28 = .ok (.iconst 0, 1) := by decide +kernel
theorem d_P_canHear_29 : decode prog_4_method_10_code 29 = .ok (.ireturn, 1) := by decide +kernel
theorem d_S_hasPiece_0 : decode prog_7_method_3_code 0 = .ok (.aload_n 0, 1) := by decide +kernel
theorem d_S_hasPiece_1 : decode prog_7_method_3_code 1 = .ok (.getfield 12, 3) := by decide +kernel
theorem d_S_hasPiece_4 : decode prog_7_method_3_code 4 = .ok (.getfield 29, 3) := by decide +kernel
theorem d_S_hasPiece_7 : decode prog_7_method_3_code 7 = .ok (.iconst 3, 1) := by decide +kernel
theorem d_S_hasPiece_8 : decode prog_7_method_3_code 8 = .ok (.iadd, 1) := by decide +kernel
theorem d_S_hasPiece_9 : decode prog_7_method_3_code 9 = .ok (.iconst 1, 1) := by decide +kernel
theorem d_S_hasPiece_10 : decode prog_7_method_3_code 10 = .ok (.isub, 1) := by decide +kernel
theorem d_S_hasPiece_11 : decode prog_7_method_3_code 11 = .ok (.iconst 3, 1) := by decide +kernel
theorem d_S_hasPiece_12 : decode prog_7_method_3_code 12 = .ok (.idiv, 1) := by decide +kernel
theorem d_S_hasPiece_13 : decode prog_7_method_3_code 13 = .ok (.istore_n 2, 1) := by decide +kernel
theorem d_S_hasPiece_14 : decode prog_7_method_3_code 14 = .ok (.iload_n 1, 1) := by decide +kernel
theorem d_S_hasPiece_15 : decode prog_7_method_3_code 15 = .ok (.iconst 1, 1) := by decide +kernel
theorem d_S_hasPiece_16 : decode prog_7_method_3_code 16 = .ok (.if_icmp .lt 16, 3) := by decide +kernel
theorem d_S_hasPiece_19 : decode prog_7_method_3_code 19 = .ok (.iload_n 1, 1) := by decide +kernel
theorem d_S_hasPiece_20 : decode prog_7_method_3_code 20 = .ok (.iconst 1, 1) := by decide +kernel
theorem d_S_hasPiece_21 : decode prog_7_method_3_code 21 = .ok (.iload_n 2, 1) := by decide +kernel
theorem d_S_hasPiece_22 : decode prog_7_method_3_code 22 = .ok (.invokestatic 32, 3) := by decide +kernel
theorem d_S_hasPiece_25 : decode prog_7_method_3_code 25 = .ok (.if_icmp .gt 7, 3) := by decide +kernel
theorem d_S_hasPiece_28 : decode prog_7_method_3_code 28 = .ok (.iconst 1, 1) := by decide +kernel
theorem d_S_hasPiece_29 : decode prog_7_method_3_code 29 = .ok (.goto 4, 3) := by decide +kernel
theorem d_S_hasPiece_32 : decode prog_7_method_3_code 32 = .ok (.iconst 0, 1) := by decide +kernel
theorem d_S_hasPiece_33 : decode prog_7_method_3_code 33 = .ok (.ireturn, 1) := by decide +kernel
