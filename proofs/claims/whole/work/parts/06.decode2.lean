/-! the instructions (by program, from the listing) -/
theorem d_T_restore_0 : decode prog_8_method_3_code 0 = .ok (.aload_n 1, 1) := by decide +kernel
theorem d_T_restore_1 : decode prog_8_method_3_code 1 = .ok (.getfield 62, 3) := by decide +kernel
theorem d_T_restore_4 : decode prog_8_method_3_code 4 = .ok (.getfield 46, 3) := by decide +kernel
theorem d_T_restore_7 : decode prog_8_method_3_code 7 = .ok (.aload_n 0, 1) := by decide +kernel
theorem d_T_restore_8 : decode prog_8_method_3_code 8 = .ok (.getfield 12, 3) := by decide +kernel
theorem d_T_restore_11 : decode prog_8_method_3_code 11 = .ok (.getfield 46, 3) := by decide +kernel
theorem d_T_restore_14 : decode prog_8_method_3_code 14 = .ok (.if_icmp .le 7, 3) := by decide +kernel
theorem d_T_restore_17 : decode prog_8_method_3_code 17 = .ok (.iconst 1, 1) := by decide +kernel
theorem d_T_restore_18 : decode prog_8_method_3_code 18 = .ok (.goto 4, 3) := by decide +kernel
theorem d_T_restore_21 : decode prog_8_method_3_code 21 = .ok (.iconst 0, 1) := by decide +kernel
theorem d_T_restore_22 : decode prog_8_method_3_code 22 = .ok (.istore_n 2, 1) := by decide +kernel
theorem d_T_restore_23 : decode prog_8_method_3_code 23 = .ok (.aload_n 0, 1) := by decide +kernel
theorem d_T_restore_24 : decode prog_8_method_3_code 24 = .ok (.getfield 36, 3) := by decide +kernel
theorem d_T_restore_27 : decode prog_8_method_3_code 27 = .ok (.ifCond .le 18, 3) := by decide +kernel
theorem d_T_restore_30 : decode prog_8_method_3_code 30 = .ok (.aload_n 1, 1) := by decide +kernel
theorem d_T_restore_31 : decode prog_8_method_3_code 31 = .ok (.getfield 65, 3) := by decide +kernel
theorem d_T_restore_34 : decode prog_8_method_3_code 34 = .ok (.aload_n 0, 1) := by decide +kernel
theorem d_T_restore_35 : decode prog_8_method_3_code 35 = .ok (.getfield 36, 3) := by decide +kernel
theorem d_T_restore_38 : decode prog_8_method_3_code 38 = .ok (.if_icmp .lt 7, 3) := by decide +kernel
theorem d_T_restore_41 : decode prog_8_method_3_code 41 = .ok (.iconst 1, 1) := by decide +kernel
theorem d_T_restore_42 : decode prog_8_method_3_code 42 = .ok (.goto 4, 3) := by decide +kernel
theorem d_T_restore_45 : decode prog_8_method_3_code 45 = .ok (.iconst 0, 1) := by decide +kernel
theorem d_T_restore_46 : decode prog_8_method_3_code 46 = .ok (.istore_n 3, 1) := by decide +kernel
theorem d_T_restore_47 : decode prog_8_method_3_code 47 = .ok (.iload_n 3, 1) := by decide +kernel
theorem d_T_restore_48 : decode prog_8_method_3_code 48 = .ok (.ifCond .eq 8, 3) := by decide +kernel
theorem d_T_restore_51 : decode prog_8_method_3_code 51 = .ok (.aload_n 0, 1) := by decide +kernel
theorem d_T_restore_52 : decode prog_8_method_3_code 52 = .ok (.iconst 0, 1) := by decide +kernel
theorem d_T_restore_53 : decode prog_8_method_3_code 53 = .ok (.putfield 36, 3) := by decide +kernel
theorem d_T_restore_56 : decode prog_8_method_3_code 56 = .ok (.iload_n 2, 1) := by decide +kernel
theorem d_T_restore_57 : decode prog_8_method_3_code 57 = .ok (.ifCond .eq 22, 3) := by decide +kernel
theorem d_T_restore_60 : decode prog_8_method_3_code 60 = .ok (.aload_n 0, 1) := by decide +kernel
theorem d_T_restore_61 : decode prog_8_method_3_code 61 = .ok (.getfield 12, 3) := by decide +kernel
theorem d_T_restore_64 : decode prog_8_method_3_code 64 = .ok (.aload_n 1, 1) := by decide +kernel
theorem d_T_restore_65 : decode prog_8_method_3_code 65 = .ok (.getfield 62, 3) := by decide +kernel
theorem d_T_restore_68 : decode prog_8_method_3_code 68 = .ok (.invokevirtual 68, 3) := by decide +kernel
theorem d_T_restore_71 : decode prog_8_method_3_code 71 = .ok (.aload_n 0, 1) := by decide +kernel
theorem d_T_restore_72 : decode prog_8_method_3_code 72 = .ok (.invokevirtual 72, 3) := by decide +kernel
theorem d_T_restore_75 : decode prog_8_method_3_code 75 = .ok (.aload_n 0, 1) := by decide +kernel
theorem d_T_restore_76 : decode prog_8_method_3_code 76 = .ok (.invokevirtual 56, 3) := by decide +kernel
theorem d_T_restore_79 : decode prog_8_method_3_code 79 = .ok (.iload_n 2, 1) := by decide +kernel
theorem d_T_restore_80 : decode prog_8_method_3_code 80 = .ok (.ifCond .eq 7, 3) := by decide +kernel
theorem d_T_restore_83 : decode prog_8_method_3_code 83 = .ok (.iconst 1, 1) := by decide +kernel
theorem d_T_restore_84 : decode prog_8_method_3_code 84 = .ok (.goto 12, 3) := by decide +kernel
theorem d_T_restore_87 : decode prog_8_method_3_code 87 = .ok (.iload_n 3, 1) := by decide +kernel
theorem d_T_restore_88 : decode prog_8_method_3_code 88 = .ok (.ifCond .eq 7, 3) := by decide +kernel
theorem d_T_restore_91 : decode prog_8_method_3_code 91 = .ok (.iconst 2, 1) := by decide +kernel
theorem d_T_restore_92 : decode prog_8_method_3_code 92 = .ok (.goto 4, 3) := by decide +kernel
theorem d_T_restore_95 : decode prog_8_method_3_code 95 = .ok (.iconst 0, 1) := by decide +kernel
theorem d_T_restore_96 : decode prog_8_method_3_code 96 = .ok (.ireturn, 1) := by decide +kernel
theorem d_T_forgetOldHeld_0 : decode prog_8_method_7_code 0 = .ok (.iconst 0, 1) := by decide +kernel
theorem d_T_forgetOldHeld_1 : decode prog_8_method_7_code 1 = .ok (.istore_n 1, 1) := by decide +kernel
theorem d_T_forgetOldHeld_2 : decode prog_8_method_7_code 2 = .ok (.iconst 0, 1) := by decide +kernel
theorem d_T_forgetOldHeld_3 : decode prog_8_method_7_code 3 = .ok (.istore_n 2, 1) := by decide +kernel
theorem d_T_forgetOldHeld_4 : decode prog_8_method_7_code 4 = .ok (.iload_n 2, 1) := by decide +kernel
theorem d_T_forgetOldHeld_5 : decode prog_8_method_7_code 5 = .ok (.aload_n 0, 1) := by decide +kernel
theorem d_T_forgetOldHeld_6 : decode prog_8_method_7_code 6 = .ok (.getfield 32, 3) := by decide +kernel
theorem d_T_forgetOldHeld_9 : decode prog_8_method_7_code 9 = .ok (.if_icmp .ge 44, 3) := by decide +kernel
theorem d_T_forgetOldHeld_12 : decode prog_8_method_7_code 12 = .ok (.aload_n 0, 1) := by decide +kernel
theorem d_T_forgetOldHeld_13 : decode prog_8_method_7_code 13 = .ok (.getfield 28, 3) := by decide +kernel
theorem d_T_forgetOldHeld_16 : decode prog_8_method_7_code 16 = .ok (.iload_n 2, 1) := by decide +kernel
theorem d_T_forgetOldHeld_17 : decode prog_8_method_7_code 17 = .ok (.aaload, 1) := by decide +kernel
theorem d_T_forgetOldHeld_18 : decode prog_8_method_7_code 18 = .ok (.astore_n 3, 1) := by decide +kernel
theorem d_T_forgetOldHeld_19 : decode prog_8_method_7_code 19 = .ok (.aload_n 3, 1) := by decide +kernel
theorem d_T_forgetOldHeld_20 : decode prog_8_method_7_code 20 = .ok (.ifnull 27, 3) := by decide +kernel
theorem d_T_forgetOldHeld_23 : decode prog_8_method_7_code 23 = .ok (.aload_n 3, 1) := by decide +kernel
theorem d_T_forgetOldHeld_24 : decode prog_8_method_7_code 24 = .ok (.getfield 49, 3) := by decide +kernel
theorem d_T_forgetOldHeld_27 : decode prog_8_method_7_code 27 = .ok (.aload_n 0, 1) := by decide +kernel
theorem d_T_forgetOldHeld_28 : decode prog_8_method_7_code 28 = .ok (.getfield 12, 3) := by decide +kernel
theorem d_T_forgetOldHeld_31 : decode prog_8_method_7_code 31 = .ok (.getfield 46, 3) := by decide +kernel
theorem d_T_forgetOldHeld_34 : decode prog_8_method_7_code 34 = .ok (.if_icmp .le 13, 3) := by decide +kernel
theorem d_T_forgetOldHeld_37 : decode prog_8_method_7_code 37 = .ok (.aload_n 0, 1) := by decide +kernel
theorem d_T_forgetOldHeld_38 : decode prog_8_method_7_code 38 = .ok (.getfield 28, 3) := by decide +kernel
theorem d_T_forgetOldHeld_41 : decode prog_8_method_7_code 41 = .ok (.iload_n 1, 1) := by decide +kernel
theorem d_T_forgetOldHeld_42 : decode prog_8_method_7_code 42 = .ok (.aload_n 3, 1) := by decide +kernel
theorem d_T_forgetOldHeld_43 : decode prog_8_method_7_code 43 = .ok (.aastore, 1) := by decide +kernel
theorem d_T_forgetOldHeld_44 : decode prog_8_method_7_code 44 = .ok (.iinc 1 1, 3) := by decide +kernel
theorem d_T_forgetOldHeld_47 : decode prog_8_method_7_code 47 = .ok (.iinc 2 1, 3) := by decide +kernel
theorem d_T_forgetOldHeld_50 : decode prog_8_method_7_code 50 = .ok (.goto (-46), 3) := by decide +kernel
theorem d_T_forgetOldHeld_53 : decode prog_8_method_7_code 53 = .ok (.aload_n 0, 1) := by decide +kernel
theorem d_T_forgetOldHeld_54 : decode prog_8_method_7_code 54 = .ok (.iload_n 1, 1) := by decide +kernel
theorem d_T_forgetOldHeld_55 : decode prog_8_method_7_code 55 = .ok (.putfield 32, 3) := by decide +kernel
theorem d_T_forgetOldHeld_58 : decode prog_8_method_7_code 58 = .ok (.return_, 1) := by decide +kernel
theorem d_D_sound_0 : decode prog_1_method_15_code 0 = .ok (.iload_n 1, 1) := by decide +kernel
theorem d_D_sound_1 : decode prog_1_method_15_code 1 = .ok (.invokestatic 59, 3) := by decide +kernel
theorem d_D_sound_4 : decode prog_1_method_15_code 4 = .ok (.ifCond .eq 10, 3) := by decide +kernel
theorem d_D_sound_7 : decode prog_1_method_15_code 7 = .ok (.iload_n 2, 1) := by decide +kernel
theorem d_D_sound_8 : decode prog_1_method_15_code 8 = .ok (.invokestatic 32, 3) := by decide +kernel
theorem d_D_sound_11 : decode prog_1_method_15_code 11 = .ok (.ifCond .ne 6, 3) := by decide +kernel
theorem d_D_sound_14 : decode prog_1_method_15_code 14 = .ok (.bipush (-2), 2) := by decide +kernel
theorem d_D_sound_16 : decode prog_1_method_15_code 16 = .ok (.ireturn, 1) := by decide +kernel
theorem d_D_sound_17 : decode prog_1_method_15_code 17 = .ok (.aload_n 0, 1) := by decide +kernel
theorem d_D_sound_18 : decode prog_1_method_15_code 18 = .ok (.getfield 11, 3) := by decide +kernel
theorem d_D_sound_21 : decode prog_1_method_15_code 21 = .ok (.iload_n 1, 1) := by decide +kernel
theorem d_D_sound_22 : decode prog_1_method_15_code 22 = .ok (.aaload, 1) := by decide +kernel
theorem d_D_sound_23 : decode prog_1_method_15_code 23 = .ok (.iload_n 2, 1) := by decide +kernel
theorem d_D_sound_24 : decode prog_1_method_15_code 24 = .ok (.invokevirtual 101, 3) := by decide +kernel
theorem d_D_sound_27 : decode prog_1_method_15_code 27 = .ok (.ifCond .eq 7, 3) := by decide +kernel
theorem d_D_sound_30 : decode prog_1_method_15_code 30 = .ok (.iconst 1, 1) := by decide +kernel
theorem d_D_sound_31 : decode prog_1_method_15_code 31 = .ok (.goto 4, 3) := by decide +kernel
theorem d_D_sound_34 : decode prog_1_method_15_code 34 = .ok (.iconst 0, 1) := by decide +kernel
theorem d_D_sound_35 : decode prog_1_method_15_code 35 = .ok (.ireturn, 1) := by decide +kernel
theorem d_V_isSound_0 : decode prog_6_method_8_code 0 = .ok (.aload_n 0, 1) := by decide +kernel
theorem d_V_isSound_1 : decode prog_6_method_8_code 1 = .ok (.getfield 11, 3) := by decide +kernel
theorem d_V_isSound_4 : decode prog_6_method_8_code 4 = .ok (.iload_n 1, 1) := by decide +kernel
theorem d_V_isSound_5 : decode prog_6_method_8_code 5 = .ok (.aaload, 1) := by decide +kernel
theorem d_V_isSound_6 : decode prog_6_method_8_code 6 = .ok (.getfield 84, 3) := by decide +kernel
theorem d_V_isSound_9 : decode prog_6_method_8_code 9 = .ok (.ifCond .ne 18, 3) := by decide +kernel
theorem d_V_isSound_12 : decode prog_6_method_8_code 12 = .ok (.aload_n 0, 1) := by decide +kernel
theorem d_V_isSound_13 : decode prog_6_method_8_code 13 = .ok (.getfield 21, 3) := by decide +kernel
theorem d_V_isSound_16 : decode prog_6_method_8_code 16 = .ok (.aload_n 0, 1) := by decide +kernel
theorem d_V_isSound_17 : decode prog_6_method_8_code 17 = .ok (.getfield 17, 3) := by decide +kernel
theorem d_V_isSound_20 : decode prog_6_method_8_code 20 = .ok (.if_icmp .ge 7, 3) := by decide +kernel
theorem d_V_isSound_23 : decode prog_6_method_8_code 23 = .ok (.iconst 1, 1) := by decide +kernel
theorem d_V_isSound_24 : decode prog_6_method_8_code 24 = .ok (.goto 4, 3) := by decide +kernel
theorem d_V_isSound_27 : decode prog_6_method_8_code 27 = .ok (.iconst 0, 1) := by decide +kernel
theorem d_V_isSound_28 : decode prog_6_method_8_code 28 = .ok (.ireturn, 1) := by decide +kernel
theorem d_D_at_0 : decode prog_1_method_16_code 0 = .ok (.iload_n 1, 1) := by decide +kernel
theorem d_D_at_1 : decode prog_1_method_16_code 1 = .ok (.iload_n 2, 1) := by decide +kernel
theorem d_D_at_2 : decode prog_1_method_16_code 2 = .ok (.invokestatic 104, 3) := by decide +kernel
theorem d_D_at_5 : decode prog_1_method_16_code 5 = .ok (.ifCond .eq 15, 3) := by decide +kernel
theorem d_D_at_8 : decode prog_1_method_16_code 8 = .ok (.aload_n 0, 1) := by decide +kernel
theorem d_D_at_9 : decode prog_1_method_16_code 9 = .ok (.iload_n 1, 1) := by decide +kernel
theorem d_D_at_10 : decode prog_1_method_16_code 10 = .ok (.iload_n 2, 1) := by decide +kernel
theorem d_D_at_11 : decode prog_1_method_16_code 11 = .ok (.invokevirtual 108, 3) := by decide +kernel
theorem d_D_at_14 : decode prog_1_method_16_code 14 = .ok (.getfield 112, 3) := by decide +kernel
theorem d_D_at_17 : decode prog_1_method_16_code 17 = .ok (.goto 5, 3) := by decide +kernel
theorem d_D_at_20 : decode prog_1_method_16_code 20 = .ok (.bipush (-2), 2) := by decide +kernel
theorem d_D_at_22 : decode prog_1_method_16_code 22 = .ok (.ireturn, 1) := by decide +kernel
theorem d_D_hasBook_0 : decode prog_1_method_29_code 0 = .ok (.iload_n 0, 1) := by decide +kernel
theorem d_D_hasBook_1 : decode prog_1_method_29_code 1 = .ok (.iconst (-1), 1) := by decide +kernel
theorem d_D_hasBook_2 : decode prog_1_method_29_code 2 = .ok (.if_icmp .eq 10, 3) := by decide +kernel
theorem d_D_hasBook_5 : decode prog_1_method_29_code 5 = .ok (.iload_n 0, 1) := by decide +kernel
theorem d_D_hasBook_6 : decode prog_1_method_29_code 6 = .ok (.invokestatic 59, 3) := by decide +kernel
theorem d_D_hasBook_9 : decode prog_1_method_29_code 9 = .ok (.ifCond .eq 14, 3) := by decide +kernel
theorem d_D_hasBook_12 : decode prog_1_method_29_code 12 = .ok (.iload_n 1, 1) := by decide +kernel
theorem d_D_hasBook_13 : decode prog_1_method_29_code 13 = .ok (.invokestatic 32, 3) := by decide +kernel
theorem d_D_hasBook_16 : decode prog_1_method_29_code 16 = .ok (.ifCond .eq 7, 3) := by decide +kernel
theorem d_D_hasBook_19 : decode prog_1_method_29_code 19 = .ok (.iconst 1, 1) := by decide +kernel
theorem d_D_hasBook_20 : decode prog_1_method_29_code 20 = .ok (.goto 4, 3) := by decide +kernel
theorem d_D_hasBook_23 : decode prog_1_method_29_code 23 = .ok (.iconst 0, 1) := by decide +kernel
theorem d_D_hasBook_24 : decode prog_1_method_29_code 24 = .ok (.ireturn, 1) := by decide +kernel
theorem d_D_book_0 : decode prog_1_method_31_code 0 = .ok (.iload_n 1, 1) := by decide +kernel
theorem d_D_book_1 : decode prog_1_method_31_code 1 = .ok (.iconst (-1), 1) := by decide +kernel
theorem d_D_book_2 : decode prog_1_method_31_code 2 = .ok (.if_icmp .ne 15, 3) := by decide +kernel
theorem d_D_book_5 : decode prog_1_method_31_code 5 = .ok (.aload_n 0, 1) := by decide +kernel
theorem d_D_book_6 : decode prog_1_method_31_code 6 = .ok (.getfield 24, 3) := by decide +kernel
theorem d_D_book_9 : decode prog_1_method_31_code 9 = .ok (.getfield 164, 3) := by decide +kernel
theorem d_D_book_12 : decode prog_1_method_31_code 12 = .ok (.iload_n 2, 1) := by decide +kernel
theorem d_D_book_13 : decode prog_1_method_31_code 13 = .ok (.aaload, 1) := by decide +kernel
theorem d_D_book_14 : decode prog_1_method_31_code 14 = .ok (.goto 17, 3) := by decide +kernel
theorem d_D_book_17 : decode prog_1_method_31_code 17 = .ok (.aload_n 0, 1) := by decide +kernel
theorem d_D_book_18 : decode prog_1_method_31_code 18 = .ok (.getfield 11, 3) := by decide +kernel
theorem d_D_book_21 : decode prog_1_method_31_code 21 = .ok (.iload_n 1, 1) := by decide +kernel
theorem d_D_book_22 : decode prog_1_method_31_code 22 = .ok (.aaload, 1) := by decide +kernel
theorem d_D_book_23 : decode prog_1_method_31_code 23 = .ok (.getfield 87, 3) := by decide +kernel
theorem d_D_book_26 : decode prog_1_method_31_code 26 = .ok (.iload_n 2, 1) := by decide +kernel
theorem d_D_book_27 : decode prog_1_method_31_code 27 = .ok (.aaload, 1) := by decide +kernel
theorem d_D_book_28 : decode prog_1_method_31_code 28 = .ok (.getfield 168, 3) := by decide +kernel
theorem d_D_book_31 : decode prog_1_method_31_code 31 = .ok (.areturn, 1) := by decide +kernel
theorem d_D_receiver_0 : decode prog_1_method_17_code 0 = .ok (.iload_n 1, 1) := by decide +kernel
theorem d_D_receiver_1 : decode prog_1_method_17_code 1 = .ok (.invokestatic 59, 3) := by decide +kernel
theorem d_D_receiver_4 : decode prog_1_method_17_code 4 = .ok (.ifCond .ne 6, 3) := by decide +kernel
theorem d_D_receiver_7 : decode prog_1_method_17_code 7 = .ok (.bipush (-2), 2) := by decide +kernel
theorem d_D_receiver_9 : decode prog_1_method_17_code 9 = .ok (.ireturn, 1) := by decide +kernel
theorem d_D_receiver_10 : decode prog_1_method_17_code 10 = .ok (.iload_n 2, 1) := by decide +kernel
theorem d_D_receiver_11 : decode prog_1_method_17_code 11 = .ok (.tableswitch 69 0 3 #[29, 39, 49, 59], 29) := by decide +kernel
theorem d_D_receiver_40 : decode prog_1_method_17_code 40 = .ok (.aload_n 0, 1) := by decide +kernel
theorem d_D_receiver_41 : decode prog_1_method_17_code 41 = .ok (.getfield 11, 3) := by decide +kernel
theorem d_D_receiver_44 : decode prog_1_method_17_code 44 = .ok (.iload_n 1, 1) := by decide +kernel
theorem d_D_receiver_45 : decode prog_1_method_17_code 45 = .ok (.aaload, 1) := by decide +kernel
theorem d_D_receiver_46 : decode prog_1_method_17_code 46 = .ok (.getfield 117, 3) := by decide +kernel
theorem d_D_receiver_49 : decode prog_1_method_17_code 49 = .ok (.ireturn, 1) := by decide +kernel
theorem d_D_receiver_50 : decode prog_1_method_17_code 50 = .ok (.aload_n 0, 1) := by decide +kernel
theorem d_D_receiver_51 : decode prog_1_method_17_code 51 = .ok (.getfield 11, 3) := by decide +kernel
theorem d_D_receiver_54 : decode prog_1_method_17_code 54 = .ok (.iload_n 1, 1) := by decide +kernel
theorem d_D_receiver_55 : decode prog_1_method_17_code 55 = .ok (.aaload, 1) := by decide +kernel
theorem d_D_receiver_56 : decode prog_1_method_17_code 56 = .ok (.getfield 120, 3) := by decide +kernel
theorem d_D_receiver_59 : decode prog_1_method_17_code 59 = .ok (.ireturn, 1) := by decide +kernel
theorem d_D_receiver_60 : decode prog_1_method_17_code 60 = .ok (.aload_n 0, 1) := by decide +kernel
theorem d_D_receiver_61 : decode prog_1_method_17_code 61 = .ok (.getfield 11, 3) := by decide +kernel
theorem d_D_receiver_64 : decode prog_1_method_17_code 64 = .ok (.iload_n 1, 1) := by decide +kernel
theorem d_D_receiver_65 : decode prog_1_method_17_code 65 = .ok (.aaload, 1) := by decide +kernel
theorem d_D_receiver_66 : decode prog_1_method_17_code 66 = .ok (.invokevirtual 123, 3) := by decide +kernel
theorem d_D_receiver_69 : decode prog_1_method_17_code 69 = .ok (.ireturn, 1) := by decide +kernel
theorem d_D_receiver_70 : decode prog_1_method_17_code 70 = .ok (.aload_n 0, 1) := by decide +kernel
theorem d_D_receiver_71 : decode prog_1_method_17_code 71 = .ok (.getfield 11, 3) := by decide +kernel
theorem d_D_receiver_74 : decode prog_1_method_17_code 74 = .ok (.iload_n 1, 1) := by decide +kernel
theorem d_D_receiver_75 : decode prog_1_method_17_code 75 = .ok (.aaload, 1) := by decide +kernel
theorem d_D_receiver_76 : decode prog_1_method_17_code 76 = .ok (.invokevirtual 126, 3) := by decide +kernel
theorem d_D_receiver_79 : decode prog_1_method_17_code 79 = .ok (.ireturn, 1) := by decide +kernel
theorem d_D_receiver_80 : decode prog_1_method_17_code 80 = .ok (.bipush (-2), 2) := by decide +kernel
theorem d_D_receiver_82 : decode prog_1_method_17_code 82 = .ok (.ireturn, 1) := by decide +kernel
theorem d_V_countKept_0 : decode prog_6_method_9_code 0 = .ok (.iconst 0, 1) := by decide +kernel
theorem d_V_countKept_1 : decode prog_6_method_9_code 1 = .ok (.istore_n 1, 1) := by decide +kernel
theorem d_V_countKept_2 : decode prog_6_method_9_code 2 = .ok (.iconst 0, 1) := by decide +kernel
theorem d_V_countKept_3 : decode prog_6_method_9_code 3 = .ok (.istore_n 2, 1) := by decide +kernel
theorem d_V_countKept_4 : decode prog_6_method_9_code 4 = .ok (.iload_n 2, 1) := by decide +kernel
theorem d_V_countKept_5 : decode prog_6_method_9_code 5 = .ok (.bipush 7, 2) := by decide +kernel
theorem d_V_countKept_7 : decode prog_6_method_9_code 7 = .ok (.if_icmp .gt 26, 3) := by decide +kernel
theorem d_V_countKept_10 : decode prog_6_method_9_code 10 = .ok (.iload_n 1, 1) := by decide +kernel
theorem d_V_countKept_11 : decode prog_6_method_9_code 11 = .ok (.aload_n 0, 1) := by decide +kernel
theorem d_V_countKept_12 : decode prog_6_method_9_code 12 = .ok (.getfield 24, 3) := by decide +kernel
theorem d_V_countKept_15 : decode prog_6_method_9_code 15 = .ok (.iload_n 2, 1) := by decide +kernel
theorem d_V_countKept_16 : decode prog_6_method_9_code 16 = .ok (.baload, 1) := by decide +kernel
theorem d_V_countKept_17 : decode prog_6_method_9_code 17 = .ok (.ifCond .eq 7, 3) := by decide +kernel
theorem d_V_countKept_20 : decode prog_6_method_9_code 20 = .ok (.iconst 1, 1) := by decide +kernel
theorem d_V_countKept_21 : decode prog_6_method_9_code 21 = .ok (.goto 4, 3) := by decide +kernel
theorem d_V_countKept_24 : decode prog_6_method_9_code 24 = .ok (.iconst 0, 1) := by decide +kernel
theorem d_V_countKept_25 : decode prog_6_method_9_code 25 = .ok (.iadd, 1) := by decide +kernel
theorem d_V_countKept_26 : decode prog_6_method_9_code 26 = .ok (.istore_n 1, 1) := by decide +kernel
theorem d_V_countKept_27 : decode prog_6_method_9_code 27 = .ok (.iinc 2 1, 3) := by decide +kernel
theorem d_V_countKept_30 : decode prog_6_method_9_code 30 = .ok (.goto (-26), 3) := by decide +kernel
theorem d_V_countKept_33 : decode prog_6_method_9_code 33 = .ok (.iload_n 1, 1) := by decide +kernel
theorem d_V_countKept_34 : decode prog_6_method_9_code 34 = .ok (.ireturn, 1) := by decide +kernel
theorem d_V_countHeld_0 : decode prog_6_method_10_code 0 = .ok (.iconst 0, 1) := by decide +kernel
theorem d_V_countHeld_1 : decode prog_6_method_10_code 1 = .ok (.istore_n 1, 1) := by decide +kernel
theorem d_V_countHeld_2 : decode prog_6_method_10_code 2 = .ok (.iconst 0, 1) := by decide +kernel
theorem d_V_countHeld_3 : decode prog_6_method_10_code 3 = .ok (.istore_n 2, 1) := by decide +kernel
theorem d_V_countHeld_4 : decode prog_6_method_10_code 4 = .ok (.iload_n 2, 1) := by decide +kernel
theorem d_V_countHeld_5 : decode prog_6_method_10_code 5 = .ok (.iconst 4, 1) := by decide +kernel
theorem d_V_countHeld_6 : decode prog_6_method_10_code 6 = .ok (.if_icmp .ge 21, 3) := by decide +kernel
theorem d_V_countHeld_9 : decode prog_6_method_10_code 9 = .ok (.iload_n 1, 1) := by decide +kernel
theorem d_V_countHeld_10 : decode prog_6_method_10_code 10 = .ok (.aload_n 0, 1) := by decide +kernel
theorem d_V_countHeld_11 : decode prog_6_method_10_code 11 = .ok (.getfield 11, 3) := by decide +kernel
theorem d_V_countHeld_14 : decode prog_6_method_10_code 14 = .ok (.iload_n 2, 1) := by decide +kernel
theorem d_V_countHeld_15 : decode prog_6_method_10_code 15 = .ok (.aaload, 1) := by decide +kernel
theorem d_V_countHeld_16 : decode prog_6_method_10_code 16 = .ok (.getfield 87, 3) := by decide +kernel
theorem d_V_countHeld_19 : decode prog_6_method_10_code 19 = .ok (.iadd, 1) := by decide +kernel
theorem d_V_countHeld_20 : decode prog_6_method_10_code 20 = .ok (.istore_n 1, 1) := by decide +kernel
theorem d_V_countHeld_21 : decode prog_6_method_10_code 21 = .ok (.iinc 2 1, 3) := by decide +kernel
theorem d_V_countHeld_24 : decode prog_6_method_10_code 24 = .ok (.goto (-20), 3) := by decide +kernel
theorem d_V_countHeld_27 : decode prog_6_method_10_code 27 = .ok (.iload_n 1, 1) := by decide +kernel
theorem d_V_countHeld_28 : decode prog_6_method_10_code 28 = .ok (.ireturn, 1) := by decide +kernel
theorem d_D_best_0 : decode prog_1_method_18_code 0 = .ok (.iload_n 1, 1) := by decide +kernel
theorem d_D_best_1 : decode prog_1_method_18_code 1 = .ok (.iload_n 2, 1) := by decide +kernel
theorem d_D_best_2 : decode prog_1_method_18_code 2 = .ok (.invokestatic 104, 3) := by decide +kernel
theorem d_D_best_5 : decode prog_1_method_18_code 5 = .ok (.ifCond .eq 23, 3) := by decide +kernel
theorem d_D_best_8 : decode prog_1_method_18_code 8 = .ok (.iload_n 3, 1) := by decide +kernel
theorem d_D_best_9 : decode prog_1_method_18_code 9 = .ok (.invokestatic 39, 3) := by decide +kernel
theorem d_D_best_12 : decode prog_1_method_18_code 12 = .ok (.ifCond .eq 16, 3) := by decide +kernel
theorem d_D_best_15 : decode prog_1_method_18_code 15 = .ok (.iload 4, 2) := by decide +kernel
theorem d_D_best_17 : decode prog_1_method_18_code 17 = .ok (.ifCond .lt 11, 3) := by decide +kernel
theorem d_D_best_20 : decode prog_1_method_18_code 20 = .ok (.iload 5, 2) := by decide +kernel
theorem d_D_best_22 : decode prog_1_method_18_code 22 = .ok (.invokestatic 129, 3) := by decide +kernel
theorem d_D_best_25 : decode prog_1_method_18_code 25 = .ok (.ifCond .ne 6, 3) := by decide +kernel
theorem d_D_best_28 : decode prog_1_method_18_code 28 = .ok (.ldc 132, 2) := by decide +kernel
theorem d_D_best_30 : decode prog_1_method_18_code 30 = .ok (.ireturn, 1) := by decide +kernel
theorem d_D_best_31 : decode prog_1_method_18_code 31 = .ok (.aload_n 0, 1) := by decide +kernel
theorem d_D_best_32 : decode prog_1_method_18_code 32 = .ok (.iload_n 1, 1) := by decide +kernel
theorem d_D_best_33 : decode prog_1_method_18_code 33 = .ok (.iload_n 2, 1) := by decide +kernel
theorem d_D_best_34 : decode prog_1_method_18_code 34 = .ok (.invokevirtual 108, 3) := by decide +kernel
theorem d_D_best_37 : decode prog_1_method_18_code 37 = .ok (.iload_n 3, 1) := by decide +kernel
theorem d_D_best_38 : decode prog_1_method_18_code 38 = .ok (.iload 4, 2) := by decide +kernel
theorem d_D_best_40 : decode prog_1_method_18_code 40 = .ok (.iload 5, 2) := by decide +kernel
theorem d_D_best_42 : decode prog_1_method_18_code 42 = .ok (.invokevirtual 133, 3) := by decide +kernel
theorem d_D_best_45 : decode prog_1_method_18_code 45 = .ok (.ireturn, 1) := by decide +kernel
theorem d_D_isLevelValue_0 : decode prog_1_method_28_code 0 = .ok (.iload_n 0, 1) := by decide +kernel
theorem d_D_isLevelValue_1 : decode prog_1_method_28_code 1 = .ok (.ifCond .lt 12, 3) := by decide +kernel
theorem d_D_isLevelValue_4 : decode prog_1_method_28_code 4 = .ok (.iload_n 0, 1) := by decide +kernel
theorem d_D_isLevelValue_5 : decode prog_1_method_28_code 5 = .ok (.iconst 3, 1) := by decide +kernel
theorem d_D_isLevelValue_6 : decode prog_1_method_28_code 6 = .ok (.if_icmp .ge 7, 3) := by decide +kernel
theorem d_D_isLevelValue_9 : decode prog_1_method_28_code 9 = .ok (.iconst 1, 1) := by decide +kernel
theorem d_D_isLevelValue_10 : decode prog_1_method_28_code 10 = .ok (.goto 4, 3) := by decide +kernel
theorem d_D_isLevelValue_13 : decode prog_1_method_28_code 13 = .ok (.iconst 0, 1) := by decide +kernel
theorem d_D_isLevelValue_14 : decode prog_1_method_28_code 14 = .ok (.ireturn, 1) := by decide +kernel
theorem d_D_order_0 : decode prog_1_method_19_code 0 = .ok (.iload_n 1, 1) := by decide +kernel
theorem d_D_order_1 : decode prog_1_method_19_code 1 = .ok (.iload_n 2, 1) := by decide +kernel
theorem d_D_order_2 : decode prog_1_method_19_code 2 = .ok (.invokestatic 104, 3) := by decide +kernel
theorem d_D_order_5 : decode prog_1_method_19_code 5 = .ok (.ifCond .eq 22, 3) := by decide +kernel
theorem d_D_order_8 : decode prog_1_method_19_code 8 = .ok (.iload_n 3, 1) := by decide +kernel
theorem d_D_order_9 : decode prog_1_method_19_code 9 = .ok (.invokestatic 39, 3) := by decide +kernel
theorem d_D_order_12 : decode prog_1_method_19_code 12 = .ok (.ifCond .eq 15, 3) := by decide +kernel
theorem d_D_order_15 : decode prog_1_method_19_code 15 = .ok (.iload 4, 2) := by decide +kernel
theorem d_D_order_17 : decode prog_1_method_19_code 17 = .ok (.ifCond .lt 10, 3) := by decide +kernel
theorem d_D_order_20 : decode prog_1_method_19_code 20 = .ok (.iload 4, 2) := by decide +kernel
theorem d_D_order_22 : decode prog_1_method_19_code 22 = .ok (.bipush 24, 2) := by decide +kernel
theorem d_D_order_24 : decode prog_1_method_19_code 24 = .ok (.if_icmp .lt 6, 3) := by decide +kernel
theorem d_D_order_27 : decode prog_1_method_19_code 27 = .ok (.bipush (-2), 2) := by decide +kernel
theorem d_D_order_29 : decode prog_1_method_19_code 29 = .ok (.ireturn, 1) := by decide +kernel
theorem d_D_order_30 : decode prog_1_method_19_code 30 = .ok (.aload_n 0, 1) := by decide +kernel
theorem d_D_order_31 : decode prog_1_method_19_code 31 = .ok (.iload_n 1, 1) := by decide +kernel
theorem d_D_order_32 : decode prog_1_method_19_code 32 = .ok (.iload_n 2, 1) := by decide +kernel
theorem d_D_order_33 : decode prog_1_method_19_code 33 = .ok (.invokevirtual 108, 3) := by decide +kernel
theorem d_D_order_36 : decode prog_1_method_19_code 36 = .ok (.iload_n 3, 1) := by decide +kernel
theorem d_D_order_37 : decode prog_1_method_19_code 37 = .ok (.iload 4, 2) := by decide +kernel
theorem d_D_order_39 : decode prog_1_method_19_code 39 = .ok (.invokevirtual 137, 3) := by decide +kernel
theorem d_D_order_42 : decode prog_1_method_19_code 42 = .ok (.ireturn, 1) := by decide +kernel
theorem d_B_idAt_0 : decode prog_2_method_12_code 0 = .ok (.aload_n 0, 1) := by decide +kernel
theorem d_B_idAt_1 : decode prog_2_method_12_code 1 = .ok (.iload_n 1, 1) := by decide +kernel
theorem d_B_idAt_2 : decode prog_2_method_12_code 2 = .ok (.invokevirtual 65, 3) := by decide +kernel
theorem d_B_idAt_5 : decode prog_2_method_12_code 5 = .ok (.iload_n 2, 1) := by decide +kernel
theorem d_B_idAt_6 : decode prog_2_method_12_code 6 = .ok (.iadd, 1) := by decide +kernel
theorem d_B_idAt_7 : decode prog_2_method_12_code 7 = .ok (.istore_n 3, 1) := by decide +kernel
theorem d_B_idAt_8 : decode prog_2_method_12_code 8 = .ok (.iload_n 3, 1) := by decide +kernel
theorem d_B_idAt_9 : decode prog_2_method_12_code 9 = .ok (.aload_n 0, 1) := by decide +kernel
theorem d_B_idAt_10 : decode prog_2_method_12_code 10 = .ok (.iload_n 1, 1) := by decide +kernel
theorem d_B_idAt_11 : decode prog_2_method_12_code 11 = .ok (.invokevirtual 68, 3) := by decide +kernel
theorem d_B_idAt_14 : decode prog_2_method_12_code 14 = .ok (.if_icmp .ge 12, 3) := by decide +kernel
theorem d_B_idAt_17 : decode prog_2_method_12_code 17 = .ok (.aload_n 0, 1) := by decide +kernel
theorem d_B_idAt_18 : decode prog_2_method_12_code 18 = .ok (.getfield 9, 3) := by decide +kernel
theorem d_B_idAt_21 : decode prog_2_method_12_code 21 = .ok (.iload_n 3, 1) := by decide +kernel
theorem d_B_idAt_22 : decode prog_2_method_12_code 22 = .ok (.iaload, 1) := by decide +kernel
theorem d_B_idAt_23 : decode prog_2_method_12_code 23 = .ok (.goto 4, 3) := by decide +kernel
theorem d_B_idAt_26 : decode prog_2_method_12_code 26 = .ok (.iconst (-1), 1) := by decide +kernel
theorem d_B_idAt_27 : decode prog_2_method_12_code 27 = .ok (.ireturn, 1) := by decide +kernel
theorem d_D_halted_0 : decode prog_1_method_20_code 0 = .ok (.iload_n 1, 1) := by decide +kernel
theorem d_D_halted_1 : decode prog_1_method_20_code 1 = .ok (.iload_n 2, 1) := by decide +kernel
theorem d_D_halted_2 : decode prog_1_method_20_code 2 = .ok (.invokestatic 104, 3) := by decide +kernel
theorem d_D_halted_5 : decode prog_1_method_20_code 5 = .ok (.ifCond .eq 15, 3) := by decide +kernel
theorem d_D_halted_8 : decode prog_1_method_20_code 8 = .ok (.aload_n 0, 1) := by decide +kernel
theorem d_D_halted_9 : decode prog_1_method_20_code 9 = .ok (.iload_n 1, 1) := by decide +kernel
theorem d_D_halted_10 : decode prog_1_method_20_code 10 = .ok (.iload_n 2, 1) := by decide +kernel
theorem d_D_halted_11 : decode prog_1_method_20_code 11 = .ok (.invokevirtual 108, 3) := by decide +kernel
theorem d_D_halted_14 : decode prog_1_method_20_code 14 = .ok (.invokevirtual 140, 3) := by decide +kernel
theorem d_D_halted_17 : decode prog_1_method_20_code 17 = .ok (.goto 5, 3) := by decide +kernel
theorem d_D_halted_20 : decode prog_1_method_20_code 20 = .ok (.bipush (-2), 2) := by decide +kernel
theorem d_D_halted_22 : decode prog_1_method_20_code 22 = .ok (.ireturn, 1) := by decide +kernel
theorem d_D_dirty_0 : decode prog_1_method_21_code 0 = .ok (.iload_n 1, 1) := by decide +kernel
theorem d_D_dirty_1 : decode prog_1_method_21_code 1 = .ok (.invokestatic 59, 3) := by decide +kernel
theorem d_D_dirty_4 : decode prog_1_method_21_code 4 = .ok (.ifCond .eq 15, 3) := by decide +kernel
theorem d_D_dirty_7 : decode prog_1_method_21_code 7 = .ok (.aload_n 0, 1) := by decide +kernel
theorem d_D_dirty_8 : decode prog_1_method_21_code 8 = .ok (.getfield 17, 3) := by decide +kernel
theorem d_D_dirty_11 : decode prog_1_method_21_code 11 = .ok (.iload_n 1, 1) := by decide +kernel
theorem d_D_dirty_12 : decode prog_1_method_21_code 12 = .ok (.aaload, 1) := by decide +kernel
theorem d_D_dirty_13 : decode prog_1_method_21_code 13 = .ok (.getfield 143, 3) := by decide +kernel
theorem d_D_dirty_16 : decode prog_1_method_21_code 16 = .ok (.goto 5, 3) := by decide +kernel
theorem d_D_dirty_19 : decode prog_1_method_21_code 19 = .ok (.bipush (-2), 2) := by decide +kernel
theorem d_D_dirty_21 : decode prog_1_method_21_code 21 = .ok (.ireturn, 1) := by decide +kernel
theorem d_D_read_0 : decode prog_1_method_22_code 0 = .ok (.iload_n 1, 1) := by decide +kernel
theorem d_D_read_1 : decode prog_1_method_22_code 1 = .ok (.invokestatic 59, 3) := by decide +kernel
theorem d_D_read_4 : decode prog_1_method_22_code 4 = .ok (.ifCond .ne 6, 3) := by decide +kernel
theorem d_D_read_7 : decode prog_1_method_22_code 7 = .ok (.bipush (-2), 2) := by decide +kernel
theorem d_D_read_9 : decode prog_1_method_22_code 9 = .ok (.ireturn, 1) := by decide +kernel
theorem d_D_read_10 : decode prog_1_method_22_code 10 = .ok (.aload_n 0, 1) := by decide +kernel
theorem d_D_read_11 : decode prog_1_method_22_code 11 = .ok (.getfield 17, 3) := by decide +kernel
theorem d_D_read_14 : decode prog_1_method_22_code 14 = .ok (.iload_n 1, 1) := by decide +kernel
theorem d_D_read_15 : decode prog_1_method_22_code 15 = .ok (.aaload, 1) := by decide +kernel
theorem d_D_read_16 : decode prog_1_method_22_code 16 = .ok (.invokevirtual 146, 3) := by decide +kernel
theorem d_D_read_19 : decode prog_1_method_22_code 19 = .ok (.istore_n 2, 1) := by decide +kernel
theorem d_D_read_20 : decode prog_1_method_22_code 20 = .ok (.iload_n 2, 1) := by decide +kernel
theorem d_D_read_21 : decode prog_1_method_22_code 21 = .ok (.iconst (-1), 1) := by decide +kernel
theorem d_D_read_22 : decode prog_1_method_22_code 22 = .ok (.if_icmp .eq 22, 3) := by decide +kernel
theorem d_D_read_25 : decode prog_1_method_22_code 25 = .ok (.aload_n 0, 1) := by decide +kernel
theorem d_D_read_26 : decode prog_1_method_22_code 26 = .ok (.iload_n 1, 1) := by decide +kernel
theorem d_D_read_27 : decode prog_1_method_22_code 27 = .ok (.iload_n 2, 1) := by decide +kernel
theorem d_D_read_28 : decode prog_1_method_22_code 28 = .ok (.invokevirtual 108, 3) := by decide +kernel
theorem d_D_read_31 : decode prog_1_method_22_code 31 = .ok (.aload_n 0, 1) := by decide +kernel
theorem d_D_read_32 : decode prog_1_method_22_code 32 = .ok (.getfield 17, 3) := by decide +kernel
theorem d_D_read_35 : decode prog_1_method_22_code 35 = .ok (.iload_n 1, 1) := by decide +kernel
theorem d_D_read_36 : decode prog_1_method_22_code 36 = .ok (.aaload, 1) := by decide +kernel
theorem d_D_read_37 : decode prog_1_method_22_code 37 = .ok (.getfield 149, 3) := by decide +kernel
theorem d_D_read_40 : decode prog_1_method_22_code 40 = .ok (.invokevirtual 153, 3) := by decide +kernel
theorem d_D_read_43 : decode prog_1_method_22_code 43 = .ok (.pop, 1) := by decide +kernel
theorem d_D_read_44 : decode prog_1_method_22_code 44 = .ok (.iload_n 2, 1) := by decide +kernel
theorem d_D_read_45 : decode prog_1_method_22_code 45 = .ok (.ireturn, 1) := by decide +kernel
theorem d_W_takeFirst_0 : decode prog_5_method_3_code 0 = .ok (.aload_n 0, 1) := by decide +kernel
theorem d_W_takeFirst_1 : decode prog_5_method_3_code 1 = .ok (.getfield 15, 3) := by decide +kernel
theorem d_W_takeFirst_4 : decode prog_5_method_3_code 4 = .ok (.ifCond .ne 5, 3) := by decide +kernel
theorem d_W_takeFirst_7 : decode prog_5_method_3_code 7 = .ok (.iconst (-1), 1) := by decide +kernel
theorem d_W_takeFirst_8 : decode prog_5_method_3_code 8 = .ok (.ireturn, 1) := by decide +kernel
theorem d_W_takeFirst_9 : decode prog_5_method_3_code 9 = .ok (.aload_n 0, 1) := by decide +kernel
theorem d_W_takeFirst_10 : decode prog_5_method_3_code 10 = .ok (.getfield 9, 3) := by decide +kernel
theorem d_W_takeFirst_13 : decode prog_5_method_3_code 13 = .ok (.iconst 0, 1) := by decide +kernel
theorem d_W_takeFirst_14 : decode prog_5_method_3_code 14 = .ok (.iaload, 1) := by decide +kernel
theorem d_W_takeFirst_15 : decode prog_5_method_3_code 15 = .ok (.istore_n 1, 1) := by decide +kernel
theorem d_W_takeFirst_16 : decode prog_5_method_3_code 16 = .ok (.aload_n 0, 1) := by decide +kernel
theorem d_W_takeFirst_17 : decode prog_5_method_3_code 17 = .ok (.dup, 1) := by decide +kernel
theorem d_W_takeFirst_18 : decode prog_5_method_3_code 18 = .ok (.getfield 15, 3) := by decide +kernel
theorem d_W_takeFirst_21 : decode prog_5_method_3_code 21 = .ok (.iconst 1, 1) := by decide +kernel
theorem d_W_takeFirst_22 : decode prog_5_method_3_code 22 = .ok (.isub, 1) := by decide +kernel
theorem d_W_takeFirst_23 : decode prog_5_method_3_code 23 = .ok (.putfield 15, 3) := by decide +kernel
theorem d_W_takeFirst_26 : decode prog_5_method_3_code 26 = .ok (.aload_n 0, 1) := by decide +kernel
theorem d_W_takeFirst_27 : decode prog_5_method_3_code 27 = .ok (.getfield 9, 3) := by decide +kernel
theorem d_W_takeFirst_30 : decode prog_5_method_3_code 30 = .ok (.iconst 1, 1) := by decide +kernel
theorem d_W_takeFirst_31 : decode prog_5_method_3_code 31 = .ok (.aload_n 0, 1) := by decide +kernel
theorem d_W_takeFirst_32 : decode prog_5_method_3_code 32 = .ok (.getfield 9, 3) := by decide +kernel
theorem d_W_takeFirst_35 : decode prog_5_method_3_code 35 = .ok (.iconst 0, 1) := by decide +kernel
theorem d_W_takeFirst_36 : decode prog_5_method_3_code 36 = .ok (.aload_n 0, 1) := by decide +kernel
theorem d_W_takeFirst_37 : decode prog_5_method_3_code 37 = .ok (.getfield 15, 3) := by decide +kernel
theorem d_W_takeFirst_40 : decode prog_5_method_3_code 40 = .ok (.invokestatic 26, 3) := by decide +kernel
theorem d_W_takeFirst_43 : decode prog_5_method_3_code 43 = .ok (.iload_n 1, 1) := by decide +kernel
theorem d_W_takeFirst_44 : decode prog_5_method_3_code 44 = .ok (.ireturn, 1) := by decide +kernel
theorem d_D_view_0 : decode prog_1_method_23_code 0 = .ok (.iload_n 2, 1) := by decide +kernel
theorem d_D_view_1 : decode prog_1_method_23_code 1 = .ok (.iconst 2, 1) := by decide +kernel
theorem d_D_view_2 : decode prog_1_method_23_code 2 = .ok (.if_icmp .ne 16, 3) := by decide +kernel
theorem d_D_view_5 : decode prog_1_method_23_code 5 = .ok (.iload_n 3, 1) := by decide +kernel
theorem d_D_view_6 : decode prog_1_method_23_code 6 = .ok (.ifCond .ne 12, 3) := by decide +kernel
theorem d_D_view_9 : decode prog_1_method_23_code 9 = .ok (.iload 4, 2) := by decide +kernel
theorem d_D_view_11 : decode prog_1_method_23_code 11 = .ok (.ifCond .ne 7, 3) := by decide +kernel
theorem d_D_view_14 : decode prog_1_method_23_code 14 = .ok (.iconst 1, 1) := by decide +kernel
theorem d_D_view_15 : decode prog_1_method_23_code 15 = .ok (.goto 4, 3) := by decide +kernel
theorem d_D_view_18 : decode prog_1_method_23_code 18 = .ok (.iconst 0, 1) := by decide +kernel
theorem d_D_view_19 : decode prog_1_method_23_code 19 = .ok (.istore 5, 2) := by decide +kernel
theorem d_D_view_21 : decode prog_1_method_23_code 21 = .ok (.iload_n 2, 1) := by decide +kernel
theorem d_D_view_22 : decode prog_1_method_23_code 22 = .ok (.invokestatic 39, 3) := by decide +kernel
theorem d_D_view_25 : decode prog_1_method_23_code 25 = .ok (.ifCond .eq 24, 3) := by decide +kernel
theorem d_D_view_28 : decode prog_1_method_23_code 28 = .ok (.iload_n 3, 1) := by decide +kernel
theorem d_D_view_29 : decode prog_1_method_23_code 29 = .ok (.ifCond .lt 20, 3) := by decide +kernel
theorem d_D_view_32 : decode prog_1_method_23_code 32 = .ok (.iload_n 3, 1) := by decide +kernel
theorem d_D_view_33 : decode prog_1_method_23_code 33 = .ok (.iconst 3, 1) := by decide +kernel
theorem d_D_view_34 : decode prog_1_method_23_code 34 = .ok (.if_icmp .ge 15, 3) := by decide +kernel
theorem d_D_view_37 : decode prog_1_method_23_code 37 = .ok (.iload 4, 2) := by decide +kernel
theorem d_D_view_39 : decode prog_1_method_23_code 39 = .ok (.invokestatic 129, 3) := by decide +kernel
theorem d_D_view_42 : decode prog_1_method_23_code 42 = .ok (.ifCond .eq 7, 3) := by decide +kernel
theorem d_D_view_45 : decode prog_1_method_23_code 45 = .ok (.iconst 1, 1) := by decide +kernel
theorem d_D_view_46 : decode prog_1_method_23_code 46 = .ok (.goto 4, 3) := by decide +kernel
theorem d_D_view_49 : decode prog_1_method_23_code 49 = .ok (.iconst 0, 1) := by decide +kernel
theorem d_D_view_50 : decode prog_1_method_23_code 50 = .ok (.istore 6, 2) := by decide +kernel
theorem d_D_view_52 : decode prog_1_method_23_code 52 = .ok (.iload_n 1, 1) := by decide +kernel
theorem d_D_view_53 : decode prog_1_method_23_code 53 = .ok (.invokestatic 59, 3) := by decide +kernel
theorem d_D_view_56 : decode prog_1_method_23_code 56 = .ok (.ifCond .eq 13, 3) := by decide +kernel
theorem d_D_view_59 : decode prog_1_method_23_code 59 = .ok (.iload 5, 2) := by decide +kernel
theorem d_D_view_61 : decode prog_1_method_23_code 61 = .ok (.ifCond .ne 11, 3) := by decide +kernel
theorem d_D_view_64 : decode prog_1_method_23_code 64 = .ok (.iload 6, 2) := by decide +kernel
theorem d_D_view_66 : decode prog_1_method_23_code 66 = .ok (.ifCond .ne 6, 3) := by decide +kernel
theorem d_D_view_69 : decode prog_1_method_23_code 69 = .ok (.ldc 132, 2) := by decide +kernel
theorem d_D_view_71 : decode prog_1_method_23_code 71 = .ok (.ireturn, 1) := by decide +kernel
theorem d_D_view_72 : decode prog_1_method_23_code 72 = .ok (.aload_n 0, 1) := by decide +kernel
theorem d_D_view_73 : decode prog_1_method_23_code 73 = .ok (.getfield 17, 3) := by decide +kernel
theorem d_D_view_76 : decode prog_1_method_23_code 76 = .ok (.iload_n 1, 1) := by decide +kernel
theorem d_D_view_77 : decode prog_1_method_23_code 77 = .ok (.aaload, 1) := by decide +kernel
theorem d_D_view_78 : decode prog_1_method_23_code 78 = .ok (.getfield 149, 3) := by decide +kernel
theorem d_D_view_81 : decode prog_1_method_23_code 81 = .ok (.iload_n 2, 1) := by decide +kernel
theorem d_D_view_82 : decode prog_1_method_23_code 82 = .ok (.bipush 9, 2) := by decide +kernel
theorem d_D_view_84 : decode prog_1_method_23_code 84 = .ok (.imul, 1) := by decide +kernel
theorem d_D_view_85 : decode prog_1_method_23_code 85 = .ok (.iload_n 3, 1) := by decide +kernel
theorem d_D_view_86 : decode prog_1_method_23_code 86 = .ok (.iconst 3, 1) := by decide +kernel
theorem d_D_view_87 : decode prog_1_method_23_code 87 = .ok (.imul, 1) := by decide +kernel
theorem d_D_view_88 : decode prog_1_method_23_code 88 = .ok (.iadd, 1) := by decide +kernel
theorem d_D_view_89 : decode prog_1_method_23_code 89 = .ok (.iload 4, 2) := by decide +kernel
theorem d_D_view_91 : decode prog_1_method_23_code 91 = .ok (.iadd, 1) := by decide +kernel
theorem d_D_view_92 : decode prog_1_method_23_code 92 = .ok (.iaload, 1) := by decide +kernel
theorem d_D_view_93 : decode prog_1_method_23_code 93 = .ok (.ireturn, 1) := by decide +kernel
theorem d_M_init_0 : decode prog_10_method_1_code 0 = .ok (.aload_n 0, 1) := by decide +kernel
theorem d_M_init_1 : decode prog_10_method_1_code 1 = .ok (.invokespecial 1, 3) := by decide +kernel
theorem d_M_init_4 : decode prog_10_method_1_code 4 = .ok (.aload_n 0, 1) := by decide +kernel
theorem d_M_init_5 : decode prog_10_method_1_code 5 = .ok (.sipush 400, 3) := by decide +kernel
theorem d_M_init_8 : decode prog_10_method_1_code 8 = .ok (.newarray .int, 2) := by decide +kernel
theorem d_M_init_10 : decode prog_10_method_1_code 10 = .ok (.putfield 7, 3) := by decide +kernel
theorem d_M_init_13 : decode prog_10_method_1_code 13 = .ok (.aload_n 0, 1) := by decide +kernel
theorem d_M_init_14 : decode prog_10_method_1_code 14 = .ok (.sipush 400, 3) := by decide +kernel
theorem d_M_init_17 : decode prog_10_method_1_code 17 = .ok (.newarray .int, 2) := by decide +kernel
theorem d_M_init_19 : decode prog_10_method_1_code 19 = .ok (.putfield 13, 3) := by decide +kernel
theorem d_M_init_22 : decode prog_10_method_1_code 22 = .ok (.aload_n 0, 1) := by decide +kernel
theorem d_M_init_23 : decode prog_10_method_1_code 23 = .ok (.sipush 400, 3) := by decide +kernel
theorem d_M_init_26 : decode prog_10_method_1_code 26 = .ok (.newarray .int, 2) := by decide +kernel
theorem d_M_init_28 : decode prog_10_method_1_code 28 = .ok (.putfield 16, 3) := by decide +kernel
theorem d_M_init_31 : decode prog_10_method_1_code 31 = .ok (.aload_n 0, 1) := by decide +kernel
theorem d_M_init_32 : decode prog_10_method_1_code 32 = .ok (.sipush 400, 3) := by decide +kernel
theorem d_M_init_35 : decode prog_10_method_1_code 35 = .ok (.newarray .int, 2) := by decide +kernel
theorem d_M_init_37 : decode prog_10_method_1_code 37 = .ok (.putfield 19, 3) := by decide +kernel
theorem d_M_init_40 : decode prog_10_method_1_code 40 = .ok (.aload_n 0, 1) := by decide +kernel
theorem d_M_init_41 : decode prog_10_method_1_code 41 = .ok (.sipush 400, 3) := by decide +kernel
theorem d_M_init_44 : decode prog_10_method_1_code 44 = .ok (.newarray .int, 2) := by decide +kernel
theorem d_M_init_46 : decode prog_10_method_1_code 46 = .ok (.putfield 22, 3) := by decide +kernel
theorem d_M_init_49 : decode prog_10_method_1_code 49 = .ok (.aload_n 0, 1) := by decide +kernel
theorem d_M_init_50 : decode prog_10_method_1_code 50 = .ok (.sipush 400, 3) := by decide +kernel
theorem d_M_init_53 : decode prog_10_method_1_code 53 = .ok (.newarray .int, 2) := by decide +kernel
theorem d_M_init_55 : decode prog_10_method_1_code 55 = .ok (.putfield 25, 3) := by decide +kernel
theorem d_M_init_58 : decode prog_10_method_1_code 58 = .ok (.aload_n 0, 1) := by decide +kernel
theorem d_M_init_59 : decode prog_10_method_1_code 59 = .ok (.sipush 400, 3) := by decide +kernel
theorem d_M_init_62 : decode prog_10_method_1_code 62 = .ok (.newarray .int, 2) := by decide +kernel
theorem d_M_init_64 : decode prog_10_method_1_code 64 = .ok (.putfield 28, 3) := by decide +kernel
theorem d_M_init_67 : decode prog_10_method_1_code 67 = .ok (.aload_n 0, 1) := by decide +kernel
theorem d_M_init_68 : decode prog_10_method_1_code 68 = .ok (.iconst 4, 1) := by decide +kernel
theorem d_M_init_69 : decode prog_10_method_1_code 69 = .ok (.newarray .int, 2) := by decide +kernel
theorem d_M_init_71 : decode prog_10_method_1_code 71 = .ok (.putfield 31, 3) := by decide +kernel
theorem d_M_init_74 : decode prog_10_method_1_code 74 = .ok (.aload_n 0, 1) := by decide +kernel
theorem d_M_init_75 : decode prog_10_method_1_code 75 = .ok (.sipush 402, 3) := by decide +kernel
theorem d_M_init_78 : decode prog_10_method_1_code 78 = .ok (.newarray .int, 2) := by decide +kernel
theorem d_M_init_80 : decode prog_10_method_1_code 80 = .ok (.putfield 34, 3) := by decide +kernel
theorem d_M_init_83 : decode prog_10_method_1_code 83 = .ok (.aload_n 0, 1) := by decide +kernel
theorem d_M_init_84 : decode prog_10_method_1_code 84 = .ok (.bipush 24, 2) := by decide +kernel
theorem d_M_init_86 : decode prog_10_method_1_code 86 = .ok (.newarray .int, 2) := by decide +kernel
theorem d_M_init_88 : decode prog_10_method_1_code 88 = .ok (.putfield 37, 3) := by decide +kernel
theorem d_M_init_91 : decode prog_10_method_1_code 91 = .ok (.aload_n 0, 1) := by decide +kernel
theorem d_M_init_92 : decode prog_10_method_1_code 92 = .ok (.bipush 24, 2) := by decide +kernel
theorem d_M_init_94 : decode prog_10_method_1_code 94 = .ok (.newarray .int, 2) := by decide +kernel
theorem d_M_init_96 : decode prog_10_method_1_code 96 = .ok (.putfield 40, 3) := by decide +kernel
theorem d_M_init_99 : decode prog_10_method_1_code 99 = .ok (.aload_n 0, 1) := by decide +kernel
theorem d_M_init_100 : decode prog_10_method_1_code 100 = .ok (.bipush 24, 2) := by decide +kernel
theorem d_M_init_102 : decode prog_10_method_1_code 102 = .ok (.newarray .int, 2) := by decide +kernel
theorem d_M_init_104 : decode prog_10_method_1_code 104 = .ok (.putfield 43, 3) := by decide +kernel
theorem d_M_init_107 : decode prog_10_method_1_code 107 = .ok (.aload_n 0, 1) := by decide +kernel
theorem d_M_init_108 : decode prog_10_method_1_code 108 = .ok (.bipush 24, 2) := by decide +kernel
theorem d_M_init_110 : decode prog_10_method_1_code 110 = .ok (.newarray .int, 2) := by decide +kernel
theorem d_M_init_112 : decode prog_10_method_1_code 112 = .ok (.putfield 46, 3) := by decide +kernel
theorem d_M_init_115 : decode prog_10_method_1_code 115 = .ok (.aload_n 0, 1) := by decide +kernel
theorem d_M_init_116 : decode prog_10_method_1_code 116 = .ok (.bipush 19, 2) := by decide +kernel
theorem d_M_init_118 : decode prog_10_method_1_code 118 = .ok (.newarray .int, 2) := by decide +kernel
theorem d_M_init_120 : decode prog_10_method_1_code 120 = .ok (.putfield 49, 3) := by decide +kernel
theorem d_M_init_123 : decode prog_10_method_1_code 123 = .ok (.aload_n 0, 1) := by decide +kernel
theorem d_M_init_124 : decode prog_10_method_1_code 124 = .ok (.bipush 19, 2) := by decide +kernel
theorem d_M_init_126 : decode prog_10_method_1_code 126 = .ok (.newarray .int, 2) := by decide +kernel
theorem d_M_init_128 : decode prog_10_method_1_code 128 = .ok (.putfield 52, 3) := by decide +kernel
theorem d_M_init_131 : decode prog_10_method_1_code 131 = .ok (.aload_n 0, 1) := by decide +kernel
theorem d_M_init_132 : decode prog_10_method_1_code 132 = .ok (.bipush 8, 2) := by decide +kernel
theorem d_M_init_134 : decode prog_10_method_1_code 134 = .ok (.newarray .int, 2) := by decide +kernel
theorem d_M_init_136 : decode prog_10_method_1_code 136 = .ok (.putfield 55, 3) := by decide +kernel
theorem d_M_init_139 : decode prog_10_method_1_code 139 = .ok (.aload_n 0, 1) := by decide +kernel
theorem d_M_init_140 : decode prog_10_method_1_code 140 = .ok (.bipush 8, 2) := by decide +kernel
theorem d_M_init_142 : decode prog_10_method_1_code 142 = .ok (.newarray .int, 2) := by decide +kernel
theorem d_M_init_144 : decode prog_10_method_1_code 144 = .ok (.putfield 58, 3) := by decide +kernel
theorem d_M_init_147 : decode prog_10_method_1_code 147 = .ok (.aload_n 0, 1) := by decide +kernel
theorem d_M_init_148 : decode prog_10_method_1_code 148 = .ok (.sipush 3208, 3) := by decide +kernel
theorem d_M_init_151 : decode prog_10_method_1_code 151 = .ok (.newarray .boolean, 2) := by decide +kernel
theorem d_M_init_153 : decode prog_10_method_1_code 153 = .ok (.putfield 61, 3) := by decide +kernel
theorem d_M_init_156 : decode prog_10_method_1_code 156 = .ok (.aload_n 0, 1) := by decide +kernel
theorem d_M_init_157 : decode prog_10_method_1_code 157 = .ok (.bipush 8, 2) := by decide +kernel
theorem d_M_init_159 : decode prog_10_method_1_code 159 = .ok (.newarray .int, 2) := by decide +kernel
theorem d_M_init_161 : decode prog_10_method_1_code 161 = .ok (.putfield 65, 3) := by decide +kernel
theorem d_M_init_164 : decode prog_10_method_1_code 164 = .ok (.aload_n 0, 1) := by decide +kernel
theorem d_M_init_165 : decode prog_10_method_1_code 165 = .ok (.iconst 2, 1) := by decide +kernel
theorem d_M_init_166 : decode prog_10_method_1_code 166 = .ok (.newarray .int, 2) := by decide +kernel
theorem d_M_init_168 : decode prog_10_method_1_code 168 = .ok (.putfield 68, 3) := by decide +kernel
theorem d_M_init_171 : decode prog_10_method_1_code 171 = .ok (.aload_n 0, 1) := by decide +kernel
theorem d_M_init_172 : decode prog_10_method_1_code 172 = .ok (.iconst 2, 1) := by decide +kernel
theorem d_M_init_173 : decode prog_10_method_1_code 173 = .ok (.newarray .int, 2) := by decide +kernel
theorem d_M_init_175 : decode prog_10_method_1_code 175 = .ok (.putfield 71, 3) := by decide +kernel
theorem d_M_init_178 : decode prog_10_method_1_code 178 = .ok (.aload_n 0, 1) := by decide +kernel
theorem d_M_init_179 : decode prog_10_method_1_code 179 = .ok (.sipush 804, 3) := by decide +kernel
theorem d_M_init_182 : decode prog_10_method_1_code 182 = .ok (.newarray .boolean, 2) := by decide +kernel
theorem d_M_init_184 : decode prog_10_method_1_code 184 = .ok (.putfield 74, 3) := by decide +kernel
theorem d_M_init_187 : decode prog_10_method_1_code 187 = .ok (.aload_n 0, 1) := by decide +kernel
theorem d_M_init_188 : decode prog_10_method_1_code 188 = .ok (.iconst 2, 1) := by decide +kernel
theorem d_M_init_189 : decode prog_10_method_1_code 189 = .ok (.newarray .int, 2) := by decide +kernel
theorem d_M_init_191 : decode prog_10_method_1_code 191 = .ok (.putfield 77, 3) := by decide +kernel
theorem d_M_init_194 : decode prog_10_method_1_code 194 = .ok (.aload_n 0, 1) := by decide +kernel
theorem d_M_init_195 : decode prog_10_method_1_code 195 = .ok (.sipush 513, 3) := by decide +kernel
theorem d_M_init_198 : decode prog_10_method_1_code 198 = .ok (.newarray .int, 2) := by decide +kernel
theorem d_M_init_200 : decode prog_10_method_1_code 200 = .ok (.putfield 80, 3) := by decide +kernel
theorem d_M_init_203 : decode prog_10_method_1_code 203 = .ok (.aload_n 0, 1) := by decide +kernel
theorem d_M_init_204 : decode prog_10_method_1_code 204 = .ok (.sipush 513, 3) := by decide +kernel
theorem d_M_init_207 : decode prog_10_method_1_code 207 = .ok (.newarray .int, 2) := by decide +kernel
theorem d_M_init_209 : decode prog_10_method_1_code 209 = .ok (.putfield 83, 3) := by decide +kernel
theorem d_M_init_212 : decode prog_10_method_1_code 212 = .ok (.aload_n 0, 1) := by decide +kernel
theorem d_M_init_213 : decode prog_10_method_1_code 213 = .ok (.sipush 513, 3) := by decide +kernel
theorem d_M_init_216 : decode prog_10_method_1_code 216 = .ok (.newarray .int, 2) := by decide +kernel
theorem d_M_init_218 : decode prog_10_method_1_code 218 = .ok (.putfield 86, 3) := by decide +kernel
theorem d_M_init_221 : decode prog_10_method_1_code 221 = .ok (.aload_n 0, 1) := by decide +kernel
theorem d_M_init_222 : decode prog_10_method_1_code 222 = .ok (.bipush 8, 2) := by decide +kernel
theorem d_M_init_224 : decode prog_10_method_1_code 224 = .ok (.newarray .int, 2) := by decide +kernel
theorem d_M_init_226 : decode prog_10_method_1_code 226 = .ok (.putfield 89, 3) := by decide +kernel
theorem d_M_init_229 : decode prog_10_method_1_code 229 = .ok (.aload_n 0, 1) := by decide +kernel
theorem d_M_init_230 : decode prog_10_method_1_code 230 = .ok (.iconst 2, 1) := by decide +kernel
theorem d_M_init_231 : decode prog_10_method_1_code 231 = .ok (.newarray .int, 2) := by decide +kernel
theorem d_M_init_233 : decode prog_10_method_1_code 233 = .ok (.putfield 92, 3) := by decide +kernel
theorem d_M_init_236 : decode prog_10_method_1_code 236 = .ok (.aload_n 0, 1) := by decide +kernel
theorem d_M_init_237 : decode prog_10_method_1_code 237 = .ok (.bipush 38, 2) := by decide +kernel
theorem d_M_init_239 : decode prog_10_method_1_code 239 = .ok (.newarray .int, 2) := by decide +kernel
theorem d_M_init_241 : decode prog_10_method_1_code 241 = .ok (.putfield 95, 3) := by decide +kernel
theorem d_M_init_244 : decode prog_10_method_1_code 244 = .ok (.aload_n 0, 1) := by decide +kernel
theorem d_M_init_245 : decode prog_10_method_1_code 245 = .ok (.iconst 2, 1) := by decide +kernel
theorem d_M_init_246 : decode prog_10_method_1_code 246 = .ok (.newarray .boolean, 2) := by decide +kernel
theorem d_M_init_248 : decode prog_10_method_1_code 248 = .ok (.putfield 98, 3) := by decide +kernel
theorem d_M_init_251 : decode prog_10_method_1_code 251 = .ok (.aload_n 0, 1) := by decide +kernel
theorem d_M_init_252 : decode prog_10_method_1_code 252 = .ok (.getfield 68, 3) := by decide +kernel
theorem d_M_init_255 : decode prog_10_method_1_code 255 = .ok (.iconst 0, 1) := by decide +kernel
theorem d_M_init_256 : decode prog_10_method_1_code 256 = .ok (.iconst 1, 1) := by decide +kernel
theorem d_M_init_257 : decode prog_10_method_1_code 257 = .ok (.iastore, 1) := by decide +kernel
theorem d_M_init_258 : decode prog_10_method_1_code 258 = .ok (.aload_n 0, 1) := by decide +kernel
theorem d_M_init_259 : decode prog_10_method_1_code 259 = .ok (.getfield 68, 3) := by decide +kernel
theorem d_M_init_262 : decode prog_10_method_1_code 262 = .ok (.iconst 1, 1) := by decide +kernel
theorem d_M_init_263 : decode prog_10_method_1_code 263 = .ok (.iconst 1, 1) := by decide +kernel
theorem d_M_init_264 : decode prog_10_method_1_code 264 = .ok (.iastore, 1) := by decide +kernel
theorem d_M_init_265 : decode prog_10_method_1_code 265 = .ok (.return_, 1) := by decide +kernel
theorem d_M_add_0 : decode prog_10_method_16_code 0 = .ok (.iload_n 1, 1) := by decide +kernel
theorem d_M_add_1 : decode prog_10_method_16_code 1 = .ok (.invokestatic 151, 3) := by decide +kernel
theorem d_M_add_4 : decode prog_10_method_16_code 4 = .ok (.ifCond .eq 46, 3) := by decide +kernel
theorem d_M_add_7 : decode prog_10_method_16_code 7 = .ok (.iload_n 2, 1) := by decide +kernel
theorem d_M_add_8 : decode prog_10_method_16_code 8 = .ok (.invokestatic 155, 3) := by decide +kernel
theorem d_M_add_11 : decode prog_10_method_16_code 11 = .ok (.ifCond .eq 39, 3) := by decide +kernel
theorem d_M_add_14 : decode prog_10_method_16_code 14 = .ok (.iload_n 3, 1) := by decide +kernel
theorem d_M_add_15 : decode prog_10_method_16_code 15 = .ok (.iconst 0, 1) := by decide +kernel
theorem d_M_add_16 : decode prog_10_method_16_code 16 = .ok (.iconst 1, 1) := by decide +kernel
theorem d_M_add_17 : decode prog_10_method_16_code 17 = .ok (.invokestatic 101, 3) := by decide +kernel
theorem d_M_add_20 : decode prog_10_method_16_code 20 = .ok (.ifCond .eq 30, 3) := by decide +kernel
theorem d_M_add_23 : decode prog_10_method_16_code 23 = .ok (.iload 4, 2) := by decide +kernel
theorem d_M_add_25 : decode prog_10_method_16_code 25 = .ok (.ldc 158, 2) := by decide +kernel
theorem d_M_add_27 : decode prog_10_method_16_code 27 = .ok (.ldc 105, 2) := by decide +kernel
theorem d_M_add_29 : decode prog_10_method_16_code 29 = .ok (.invokestatic 101, 3) := by decide +kernel
theorem d_M_add_32 : decode prog_10_method_16_code 32 = .ok (.ifCond .eq 18, 3) := by decide +kernel
theorem d_M_add_35 : decode prog_10_method_16_code 35 = .ok (.iload 5, 2) := by decide +kernel
theorem d_M_add_37 : decode prog_10_method_16_code 37 = .ok (.iconst 1, 1) := by decide +kernel
theorem d_M_add_38 : decode prog_10_method_16_code 38 = .ok (.ldc 105, 2) := by decide +kernel
theorem d_M_add_40 : decode prog_10_method_16_code 40 = .ok (.invokestatic 101, 3) := by decide +kernel
theorem d_M_add_43 : decode prog_10_method_16_code 43 = .ok (.ifCond .eq 7, 3) := by decide +kernel
theorem d_M_add_46 : decode prog_10_method_16_code 46 = .ok (.iconst 1, 1) := by decide +kernel
theorem d_M_add_47 : decode prog_10_method_16_code 47 = .ok (.goto 4, 3) := by decide +kernel
theorem d_M_add_50 : decode prog_10_method_16_code 50 = .ok (.iconst 0, 1) := by decide +kernel
theorem d_M_add_51 : decode prog_10_method_16_code 51 = .ok (.istore 6, 2) := by decide +kernel
theorem d_M_add_53 : decode prog_10_method_16_code 53 = .ok (.iload 6, 2) := by decide +kernel
theorem d_M_add_55 : decode prog_10_method_16_code 55 = .ok (.ifCond .eq 18, 3) := by decide +kernel
theorem d_M_add_58 : decode prog_10_method_16_code 58 = .ok (.aload_n 0, 1) := by decide +kernel
theorem d_M_add_59 : decode prog_10_method_16_code 59 = .ok (.iconst 0, 1) := by decide +kernel
theorem d_M_add_60 : decode prog_10_method_16_code 60 = .ok (.iload_n 1, 1) := by decide +kernel
theorem d_M_add_61 : decode prog_10_method_16_code 61 = .ok (.iload_n 2, 1) := by decide +kernel
theorem d_M_add_62 : decode prog_10_method_16_code 62 = .ok (.iload_n 3, 1) := by decide +kernel
theorem d_M_add_63 : decode prog_10_method_16_code 63 = .ok (.iload 4, 2) := by decide +kernel
theorem d_M_add_65 : decode prog_10_method_16_code 65 = .ok (.iload 5, 2) := by decide +kernel
theorem d_M_add_67 : decode prog_10_method_16_code 67 = .ok (.invokevirtual 159, 3) := by decide +kernel
theorem d_M_add_70 : decode prog_10_method_16_code 70 = .ok (.goto 5, 3) := by decide +kernel
theorem d_M_add_73 : decode prog_10_method_16_code 73 = .ok (.bipush (-2), 2) := by decide +kernel
theorem d_M_add_75 : decode prog_10_method_16_code 75 = .ok (.ireturn, 1) := by decide +kernel
theorem d_M_isInstrument_0 : decode prog_10_method_3_code 0 = .ok (.iload_n 0, 1) := by decide +kernel
theorem d_M_isInstrument_1 : decode prog_10_method_3_code 1 = .ok (.iconst 0, 1) := by decide +kernel
theorem d_M_isInstrument_2 : decode prog_10_method_3_code 2 = .ok (.iconst 3, 1) := by decide +kernel
theorem d_M_isInstrument_3 : decode prog_10_method_3_code 3 = .ok (.invokestatic 101, 3) := by decide +kernel
theorem d_M_isInstrument_6 : decode prog_10_method_3_code 6 = .ok (.ireturn, 1) := by decide +kernel
theorem d_M_within_0 : decode prog_10_method_2_code 0 = .ok (.iload_n 0, 1) := by decide +kernel
theorem d_M_within_1 : decode prog_10_method_2_code 1 = .ok (.iload_n 1, 1) := by decide +kernel
theorem d_M_within_2 : decode prog_10_method_2_code 2 = .ok (.if_icmp .lt 12, 3) := by decide +kernel
theorem d_M_within_5 : decode prog_10_method_2_code 5 = .ok (.iload_n 0, 1) := by decide +kernel
theorem d_M_within_6 : decode prog_10_method_2_code 6 = .ok (.iload_n 2, 1) := by decide +kernel
theorem d_M_within_7 : decode prog_10_method_2_code 7 = .ok (.if_icmp .gt 7, 3) := by decide +kernel
theorem d_M_within_10 : decode prog_10_method_2_code 10 = .ok (.iconst 1, 1) := by decide +kernel
theorem d_M_within_11 : decode prog_10_method_2_code 11 = .ok (.goto 4, 3) := by decide +kernel
theorem d_M_within_14 : decode prog_10_method_2_code 14 = .ok (.iconst 0, 1) := by decide +kernel
theorem d_M_within_15 : decode prog_10_method_2_code 15 = .ok (.ireturn, 1) := by decide +kernel
theorem d_M_isId_0 : decode prog_10_method_4_code 0 = .ok (.iload_n 0, 1) := by decide +kernel
theorem d_M_isId_1 : decode prog_10_method_4_code 1 = .ok (.iconst 1, 1) := by decide +kernel
theorem d_M_isId_2 : decode prog_10_method_4_code 2 = .ok (.ldc 105, 2) := by decide +kernel
theorem d_M_isId_4 : decode prog_10_method_4_code 4 = .ok (.invokestatic 101, 3) := by decide +kernel
theorem d_M_isId_7 : decode prog_10_method_4_code 7 = .ok (.ireturn, 1) := by decide +kernel
theorem d_M_take_0 : decode prog_10_method_15_code 0 = .ok (.aload_n 0, 1) := by decide +kernel
theorem d_M_take_1 : decode prog_10_method_15_code 1 = .ok (.iload_n 2, 1) := by decide +kernel
theorem d_M_take_2 : decode prog_10_method_15_code 2 = .ok (.aload_n 0, 1) := by decide +kernel
theorem d_M_take_3 : decode prog_10_method_15_code 3 = .ok (.getfield 31, 3) := by decide +kernel
theorem d_M_take_6 : decode prog_10_method_15_code 6 = .ok (.iload_n 2, 1) := by decide +kernel
theorem d_M_take_7 : decode prog_10_method_15_code 7 = .ok (.iaload, 1) := by decide +kernel
theorem d_M_take_8 : decode prog_10_method_15_code 8 = .ok (.invokevirtual 144, 3) := by decide +kernel
theorem d_M_take_11 : decode prog_10_method_15_code 11 = .ok (.aload_n 0, 1) := by decide +kernel
theorem d_M_take_12 : decode prog_10_method_15_code 12 = .ok (.iload_n 3, 1) := by decide +kernel
theorem d_M_take_13 : decode prog_10_method_15_code 13 = .ok (.invokevirtual 110, 3) := by decide +kernel
theorem d_M_take_16 : decode prog_10_method_15_code 16 = .ok (.istore 7, 2) := by decide +kernel
theorem d_M_take_18 : decode prog_10_method_15_code 18 = .ok (.iload_n 1, 1) := by decide +kernel
theorem d_M_take_19 : decode prog_10_method_15_code 19 = .ok (.ifCond .ne 25, 3) := by decide +kernel
theorem d_M_take_22 : decode prog_10_method_15_code 22 = .ok (.iload 7, 2) := by decide +kernel
theorem d_M_take_24 : decode prog_10_method_15_code 24 = .ok (.ifCond .ge 16, 3) := by decide +kernel
theorem d_M_take_27 : decode prog_10_method_15_code 27 = .ok (.aload_n 0, 1) := by decide +kernel
theorem d_M_take_28 : decode prog_10_method_15_code 28 = .ok (.getfield 106, 3) := by decide +kernel
theorem d_M_take_31 : decode prog_10_method_15_code 31 = .ok (.bipush 24, 2) := by decide +kernel
theorem d_M_take_33 : decode prog_10_method_15_code 33 = .ok (.if_icmp .ge 7, 3) := by decide +kernel
theorem d_M_take_36 : decode prog_10_method_15_code 36 = .ok (.iconst 1, 1) := by decide +kernel
theorem d_M_take_37 : decode prog_10_method_15_code 37 = .ok (.goto 75, 3) := by decide +kernel
theorem d_M_take_40 : decode prog_10_method_15_code 40 = .ok (.iconst 0, 1) := by decide +kernel
theorem d_M_take_41 : decode prog_10_method_15_code 41 = .ok (.goto 71, 3) := by decide +kernel
theorem d_M_take_44 : decode prog_10_method_15_code 44 = .ok (.iload_n 1, 1) := by decide +kernel
theorem d_M_take_45 : decode prog_10_method_15_code 45 = .ok (.iconst 1, 1) := by decide +kernel
theorem d_M_take_46 : decode prog_10_method_15_code 46 = .ok (.if_icmp .ne 28, 3) := by decide +kernel
theorem d_M_take_49 : decode prog_10_method_15_code 49 = .ok (.iload 7, 2) := by decide +kernel
theorem d_M_take_51 : decode prog_10_method_15_code 51 = .ok (.ifCond .lt 19, 3) := by decide +kernel
theorem d_M_take_54 : decode prog_10_method_15_code 54 = .ok (.iload 6, 2) := by decide +kernel
theorem d_M_take_56 : decode prog_10_method_15_code 56 = .ok (.aload_n 0, 1) := by decide +kernel
theorem d_M_take_57 : decode prog_10_method_15_code 57 = .ok (.getfield 46, 3) := by decide +kernel
theorem d_M_take_60 : decode prog_10_method_15_code 60 = .ok (.iload 7, 2) := by decide +kernel
theorem d_M_take_62 : decode prog_10_method_15_code 62 = .ok (.iaload, 1) := by decide +kernel
theorem d_M_take_63 : decode prog_10_method_15_code 63 = .ok (.if_icmp .ge 7, 3) := by decide +kernel
theorem d_M_take_66 : decode prog_10_method_15_code 66 = .ok (.iconst 1, 1) := by decide +kernel
theorem d_M_take_67 : decode prog_10_method_15_code 67 = .ok (.goto 45, 3) := by decide +kernel
theorem d_M_take_70 : decode prog_10_method_15_code 70 = .ok (.iconst 0, 1) := by decide +kernel
theorem d_M_take_71 : decode prog_10_method_15_code 71 = .ok (.goto 41, 3) := by decide +kernel
theorem d_M_take_74 : decode prog_10_method_15_code 74 = .ok (.iload_n 1, 1) := by decide +kernel
theorem d_M_take_75 : decode prog_10_method_15_code 75 = .ok (.iconst 2, 1) := by decide +kernel
theorem d_M_take_76 : decode prog_10_method_15_code 76 = .ok (.if_icmp .ne 35, 3) := by decide +kernel
theorem d_M_take_79 : decode prog_10_method_15_code 79 = .ok (.iload 7, 2) := by decide +kernel
theorem d_M_take_81 : decode prog_10_method_15_code 81 = .ok (.ifCond .lt 26, 3) := by decide +kernel
theorem d_M_take_84 : decode prog_10_method_15_code 84 = .ok (.aload_n 0, 1) := by decide +kernel
theorem d_M_take_85 : decode prog_10_method_15_code 85 = .ok (.getfield 118, 3) := by decide +kernel
theorem d_M_take_88 : decode prog_10_method_15_code 88 = .ok (.ifCond .ne 19, 3) := by decide +kernel
theorem d_M_take_91 : decode prog_10_method_15_code 91 = .ok (.iload 6, 2) := by decide +kernel
theorem d_M_take_93 : decode prog_10_method_15_code 93 = .ok (.aload_n 0, 1) := by decide +kernel
theorem d_M_take_94 : decode prog_10_method_15_code 94 = .ok (.getfield 46, 3) := by decide +kernel
theorem d_M_take_97 : decode prog_10_method_15_code 97 = .ok (.iload 7, 2) := by decide +kernel
theorem d_M_take_99 : decode prog_10_method_15_code 99 = .ok (.iaload, 1) := by decide +kernel
theorem d_M_take_100 : decode prog_10_method_15_code 100 = .ok (.if_icmp .gt 7, 3) := by decide +kernel
theorem d_M_take_103 : decode prog_10_method_15_code 103 = .ok (.iconst 1, 1) := by decide +kernel
theorem d_M_take_104 : decode prog_10_method_15_code 104 = .ok (.goto 8, 3) := by decide +kernel
theorem d_M_take_107 : decode prog_10_method_15_code 107 = .ok (.iconst 0, 1) := by decide +kernel
theorem d_M_take_108 : decode prog_10_method_15_code 108 = .ok (.goto 4, 3) := by decide +kernel
theorem d_M_take_111 : decode prog_10_method_15_code 111 = .ok (.iconst 1, 1) := by decide +kernel
theorem d_M_take_112 : decode prog_10_method_15_code 112 = .ok (.istore 8, 2) := by decide +kernel
theorem d_M_take_114 : decode prog_10_method_15_code 114 = .ok (.iload_n 1, 1) := by decide +kernel
theorem d_M_take_115 : decode prog_10_method_15_code 115 = .ok (.iconst 3, 1) := by decide +kernel
theorem d_M_take_116 : decode prog_10_method_15_code 116 = .ok (.if_icmp .ne 8, 3) := by decide +kernel
theorem d_M_take_119 : decode prog_10_method_15_code 119 = .ok (.iload 7, 2) := by decide +kernel
theorem d_M_take_121 : decode prog_10_method_15_code 121 = .ok (.ifCond .lt 26, 3) := by decide +kernel
theorem d_M_take_124 : decode prog_10_method_15_code 124 = .ok (.iload_n 1, 1) := by decide +kernel
theorem d_M_take_125 : decode prog_10_method_15_code 125 = .ok (.iconst 4, 1) := by decide +kernel
theorem d_M_take_126 : decode prog_10_method_15_code 126 = .ok (.if_icmp .ne 24, 3) := by decide +kernel
theorem d_M_take_129 : decode prog_10_method_15_code 129 = .ok (.aload_n 0, 1) := by decide +kernel
theorem d_M_take_130 : decode prog_10_method_15_code 130 = .ok (.getfield 118, 3) := by decide +kernel
theorem d_M_take_133 : decode prog_10_method_15_code 133 = .ok (.iload 6, 2) := by decide +kernel
theorem d_M_take_135 : decode prog_10_method_15_code 135 = .ok (.iconst 1, 1) := by decide +kernel
theorem d_M_take_136 : decode prog_10_method_15_code 136 = .ok (.if_icmp .ne 7, 3) := by decide +kernel
theorem d_M_take_139 : decode prog_10_method_15_code 139 = .ok (.iconst 1, 1) := by decide +kernel
theorem d_M_take_140 : decode prog_10_method_15_code 140 = .ok (.goto 4, 3) := by decide +kernel
theorem d_M_take_143 : decode prog_10_method_15_code 143 = .ok (.iconst 0, 1) := by decide +kernel
theorem d_M_take_144 : decode prog_10_method_15_code 144 = .ok (.if_icmp .ne 6, 3) := by decide +kernel
theorem d_M_take_147 : decode prog_10_method_15_code 147 = .ok (.iconst 0, 1) := by decide +kernel
theorem d_M_take_148 : decode prog_10_method_15_code 148 = .ok (.istore 8, 2) := by decide +kernel
theorem d_M_take_150 : decode prog_10_method_15_code 150 = .ok (.iload 8, 2) := by decide +kernel
theorem d_M_take_152 : decode prog_10_method_15_code 152 = .ok (.ifCond .ne 6, 3) := by decide +kernel
theorem d_M_take_155 : decode prog_10_method_15_code 155 = .ok (.bipush (-3), 2) := by decide +kernel
theorem d_M_take_157 : decode prog_10_method_15_code 157 = .ok (.ireturn, 1) := by decide +kernel
theorem d_M_take_158 : decode prog_10_method_15_code 158 = .ok (.aload_n 0, 1) := by decide +kernel
theorem d_M_take_159 : decode prog_10_method_15_code 159 = .ok (.getfield 122, 3) := by decide +kernel
theorem d_M_take_162 : decode prog_10_method_15_code 162 = .ok (.sipush 400, 3) := by decide +kernel
theorem d_M_take_165 : decode prog_10_method_15_code 165 = .ok (.if_icmp .eq 23, 3) := by decide +kernel
theorem d_M_take_168 : decode prog_10_method_15_code 168 = .ok (.aload_n 0, 1) := by decide +kernel
theorem d_M_take_169 : decode prog_10_method_15_code 169 = .ok (.getfield 122, 3) := by decide +kernel
theorem d_M_take_172 : decode prog_10_method_15_code 172 = .ok (.aload_n 0, 1) := by decide +kernel
theorem d_M_take_173 : decode prog_10_method_15_code 173 = .ok (.getfield 34, 3) := by decide +kernel
theorem d_M_take_176 : decode prog_10_method_15_code 176 = .ok (.aload_n 0, 1) := by decide +kernel
theorem d_M_take_177 : decode prog_10_method_15_code 177 = .ok (.getfield 148, 3) := by decide +kernel
theorem d_M_take_180 : decode prog_10_method_15_code 180 = .ok (.iconst 1, 1) := by decide +kernel
theorem d_M_take_181 : decode prog_10_method_15_code 181 = .ok (.iadd, 1) := by decide +kernel
theorem d_M_take_182 : decode prog_10_method_15_code 182 = .ok (.iaload, 1) := by decide +kernel
theorem d_M_take_183 : decode prog_10_method_15_code 183 = .ok (.isub, 1) := by decide +kernel
theorem d_M_take_184 : decode prog_10_method_15_code 184 = .ok (.iconst 5, 1) := by decide +kernel
theorem d_M_take_185 : decode prog_10_method_15_code 185 = .ok (.if_icmp .ne 6, 3) := by decide +kernel
theorem d_M_take_188 : decode prog_10_method_15_code 188 = .ok (.bipush (-4), 2) := by decide +kernel
theorem d_M_take_190 : decode prog_10_method_15_code 190 = .ok (.ireturn, 1) := by decide +kernel
theorem d_M_take_191 : decode prog_10_method_15_code 191 = .ok (.aload_n 0, 1) := by decide +kernel
theorem d_M_take_192 : decode prog_10_method_15_code 192 = .ok (.getfield 7, 3) := by decide +kernel
theorem d_M_take_195 : decode prog_10_method_15_code 195 = .ok (.aload_n 0, 1) := by decide +kernel
theorem d_M_take_196 : decode prog_10_method_15_code 196 = .ok (.getfield 122, 3) := by decide +kernel
theorem d_M_take_199 : decode prog_10_method_15_code 199 = .ok (.iload_n 1, 1) := by decide +kernel
theorem d_M_take_200 : decode prog_10_method_15_code 200 = .ok (.iastore, 1) := by decide +kernel
theorem d_M_take_201 : decode prog_10_method_15_code 201 = .ok (.aload_n 0, 1) := by decide +kernel
theorem d_M_take_202 : decode prog_10_method_15_code 202 = .ok (.getfield 13, 3) := by decide +kernel
theorem d_M_take_205 : decode prog_10_method_15_code 205 = .ok (.aload_n 0, 1) := by decide +kernel
theorem d_M_take_206 : decode prog_10_method_15_code 206 = .ok (.getfield 122, 3) := by decide +kernel
theorem d_M_take_209 : decode prog_10_method_15_code 209 = .ok (.iload_n 2, 1) := by decide +kernel
theorem d_M_take_210 : decode prog_10_method_15_code 210 = .ok (.iastore, 1) := by decide +kernel
theorem d_M_take_211 : decode prog_10_method_15_code 211 = .ok (.aload_n 0, 1) := by decide +kernel
theorem d_M_take_212 : decode prog_10_method_15_code 212 = .ok (.getfield 31, 3) := by decide +kernel
theorem d_M_take_215 : decode prog_10_method_15_code 215 = .ok (.iload_n 2, 1) := by decide +kernel
theorem d_M_take_216 : decode prog_10_method_15_code 216 = .ok (.dup2, 1) := by decide +kernel
theorem d_M_take_217 : decode prog_10_method_15_code 217 = .ok (.iaload, 1) := by decide +kernel
theorem d_M_take_218 : decode prog_10_method_15_code 218 = .ok (.iconst 1, 1) := by decide +kernel
theorem d_M_take_219 : decode prog_10_method_15_code 219 = .ok (.iadd, 1) := by decide +kernel
theorem d_M_take_220 : decode prog_10_method_15_code 220 = .ok (.iastore, 1) := by decide +kernel
theorem d_M_take_221 : decode prog_10_method_15_code 221 = .ok (.aload_n 0, 1) := by decide +kernel
theorem d_M_take_222 : decode prog_10_method_15_code 222 = .ok (.getfield 16, 3) := by decide +kernel
theorem d_M_take_225 : decode prog_10_method_15_code 225 = .ok (.aload_n 0, 1) := by decide +kernel
theorem d_M_take_226 : decode prog_10_method_15_code 226 = .ok (.getfield 122, 3) := by decide +kernel
theorem d_M_take_229 : decode prog_10_method_15_code 229 = .ok (.aload_n 0, 1) := by decide +kernel
theorem d_M_take_230 : decode prog_10_method_15_code 230 = .ok (.getfield 31, 3) := by decide +kernel
theorem d_M_take_233 : decode prog_10_method_15_code 233 = .ok (.iload_n 2, 1) := by decide +kernel
theorem d_M_take_234 : decode prog_10_method_15_code 234 = .ok (.iaload, 1) := by decide +kernel
theorem d_M_take_235 : decode prog_10_method_15_code 235 = .ok (.iastore, 1) := by decide +kernel
theorem d_M_take_236 : decode prog_10_method_15_code 236 = .ok (.aload_n 0, 1) := by decide +kernel
theorem d_M_take_237 : decode prog_10_method_15_code 237 = .ok (.getfield 19, 3) := by decide +kernel
theorem d_M_take_240 : decode prog_10_method_15_code 240 = .ok (.aload_n 0, 1) := by decide +kernel
theorem d_M_take_241 : decode prog_10_method_15_code 241 = .ok (.getfield 122, 3) := by decide +kernel
theorem d_M_take_244 : decode prog_10_method_15_code 244 = .ok (.iload_n 3, 1) := by decide +kernel
theorem d_M_take_245 : decode prog_10_method_15_code 245 = .ok (.iastore, 1) := by decide +kernel
theorem d_M_take_246 : decode prog_10_method_15_code 246 = .ok (.aload_n 0, 1) := by decide +kernel
theorem d_M_take_247 : decode prog_10_method_15_code 247 = .ok (.getfield 22, 3) := by decide +kernel
theorem d_M_take_250 : decode prog_10_method_15_code 250 = .ok (.aload_n 0, 1) := by decide +kernel
theorem d_M_take_251 : decode prog_10_method_15_code 251 = .ok (.getfield 122, 3) := by decide +kernel
theorem d_M_take_254 : decode prog_10_method_15_code 254 = .ok (.iload 4, 2) := by decide +kernel
theorem d_M_take_256 : decode prog_10_method_15_code 256 = .ok (.iastore, 1) := by decide +kernel
theorem d_M_take_257 : decode prog_10_method_15_code 257 = .ok (.aload_n 0, 1) := by decide +kernel
theorem d_M_take_258 : decode prog_10_method_15_code 258 = .ok (.getfield 25, 3) := by decide +kernel
theorem d_M_take_261 : decode prog_10_method_15_code 261 = .ok (.aload_n 0, 1) := by decide +kernel
theorem d_M_take_262 : decode prog_10_method_15_code 262 = .ok (.getfield 122, 3) := by decide +kernel
theorem d_M_take_265 : decode prog_10_method_15_code 265 = .ok (.iload 5, 2) := by decide +kernel
theorem d_M_take_267 : decode prog_10_method_15_code 267 = .ok (.iastore, 1) := by decide +kernel
theorem d_M_take_268 : decode prog_10_method_15_code 268 = .ok (.aload_n 0, 1) := by decide +kernel
theorem d_M_take_269 : decode prog_10_method_15_code 269 = .ok (.getfield 28, 3) := by decide +kernel
theorem d_M_take_272 : decode prog_10_method_15_code 272 = .ok (.aload_n 0, 1) := by decide +kernel
theorem d_M_take_273 : decode prog_10_method_15_code 273 = .ok (.getfield 122, 3) := by decide +kernel
theorem d_M_take_276 : decode prog_10_method_15_code 276 = .ok (.iload 6, 2) := by decide +kernel
theorem d_M_take_278 : decode prog_10_method_15_code 278 = .ok (.iastore, 1) := by decide +kernel
theorem d_M_take_279 : decode prog_10_method_15_code 279 = .ok (.aload_n 0, 1) := by decide +kernel
theorem d_M_take_280 : decode prog_10_method_15_code 280 = .ok (.dup, 1) := by decide +kernel
theorem d_M_take_281 : decode prog_10_method_15_code 281 = .ok (.getfield 122, 3) := by decide +kernel
theorem d_M_take_284 : decode prog_10_method_15_code 284 = .ok (.iconst 1, 1) := by decide +kernel
theorem d_M_take_285 : decode prog_10_method_15_code 285 = .ok (.iadd, 1) := by decide +kernel
theorem d_M_take_286 : decode prog_10_method_15_code 286 = .ok (.putfield 122, 3) := by decide +kernel
theorem d_M_take_289 : decode prog_10_method_15_code 289 = .ok (.aload_n 0, 1) := by decide +kernel
theorem d_M_take_290 : decode prog_10_method_15_code 290 = .ok (.getfield 31, 3) := by decide +kernel
theorem d_M_take_293 : decode prog_10_method_15_code 293 = .ok (.iload_n 2, 1) := by decide +kernel
theorem d_M_take_294 : decode prog_10_method_15_code 294 = .ok (.iaload, 1) := by decide +kernel
theorem d_M_take_295 : decode prog_10_method_15_code 295 = .ok (.ireturn, 1) := by decide +kernel
theorem d_M_goOver_0 : decode prog_10_method_9_code 0 = .ok (.aload_n 0, 1) := by decide +kernel
theorem d_M_goOver_1 : decode prog_10_method_9_code 1 = .ok (.iconst 0, 1) := by decide +kernel
theorem d_M_goOver_2 : decode prog_10_method_9_code 2 = .ok (.putfield 106, 3) := by decide +kernel
theorem d_M_goOver_5 : decode prog_10_method_9_code 5 = .ok (.aload_n 0, 1) := by decide +kernel
theorem d_M_goOver_6 : decode prog_10_method_9_code 6 = .ok (.iconst 0, 1) := by decide +kernel
theorem d_M_goOver_7 : decode prog_10_method_9_code 7 = .ok (.putfield 118, 3) := by decide +kernel
theorem d_M_goOver_10 : decode prog_10_method_9_code 10 = .ok (.iconst 0, 1) := by decide +kernel
theorem d_M_goOver_11 : decode prog_10_method_9_code 11 = .ok (.istore_n 3, 1) := by decide +kernel
theorem d_M_goOver_12 : decode prog_10_method_9_code 12 = .ok (.iload_n 3, 1) := by decide +kernel
theorem d_M_goOver_13 : decode prog_10_method_9_code 13 = .ok (.aload_n 0, 1) := by decide +kernel
theorem d_M_goOver_14 : decode prog_10_method_9_code 14 = .ok (.getfield 122, 3) := by decide +kernel
theorem d_M_goOver_17 : decode prog_10_method_9_code 17 = .ok (.if_icmp .ge 34, 3) := by decide +kernel
theorem d_M_goOver_20 : decode prog_10_method_9_code 20 = .ok (.aload_n 0, 1) := by decide +kernel
theorem d_M_goOver_21 : decode prog_10_method_9_code 21 = .ok (.getfield 13, 3) := by decide +kernel
theorem d_M_goOver_24 : decode prog_10_method_9_code 24 = .ok (.iload_n 3, 1) := by decide +kernel
theorem d_M_goOver_25 : decode prog_10_method_9_code 25 = .ok (.iaload, 1) := by decide +kernel
theorem d_M_goOver_26 : decode prog_10_method_9_code 26 = .ok (.iload_n 1, 1) := by decide +kernel
theorem d_M_goOver_27 : decode prog_10_method_9_code 27 = .ok (.if_icmp .ne 18, 3) := by decide +kernel
theorem d_M_goOver_30 : decode prog_10_method_9_code 30 = .ok (.aload_n 0, 1) := by decide +kernel
theorem d_M_goOver_31 : decode prog_10_method_9_code 31 = .ok (.getfield 16, 3) := by decide +kernel
theorem d_M_goOver_34 : decode prog_10_method_9_code 34 = .ok (.iload_n 3, 1) := by decide +kernel
theorem d_M_goOver_35 : decode prog_10_method_9_code 35 = .ok (.iaload, 1) := by decide +kernel
theorem d_M_goOver_36 : decode prog_10_method_9_code 36 = .ok (.iload_n 2, 1) := by decide +kernel
theorem d_M_goOver_37 : decode prog_10_method_9_code 37 = .ok (.if_icmp .gt 8, 3) := by decide +kernel
theorem d_M_goOver_40 : decode prog_10_method_9_code 40 = .ok (.aload_n 0, 1) := by decide +kernel
theorem d_M_goOver_41 : decode prog_10_method_9_code 41 = .ok (.iload_n 3, 1) := by decide +kernel
theorem d_M_goOver_42 : decode prog_10_method_9_code 42 = .ok (.invokevirtual 125, 3) := by decide +kernel
theorem d_M_goOver_45 : decode prog_10_method_9_code 45 = .ok (.iinc 3 1, 3) := by decide +kernel
theorem d_M_goOver_48 : decode prog_10_method_9_code 48 = .ok (.goto (-36), 3) := by decide +kernel
theorem d_M_goOver_51 : decode prog_10_method_9_code 51 = .ok (.return_, 1) := by decide +kernel
