/-! the instructions (by program, from the listing) -/
theorem d_M_read_0 : decode prog_10_method_49_code 0 = .ok (.iload_n 1, 1) := by decide +kernel
theorem d_M_read_1 : decode prog_10_method_49_code 1 = .ok (.invokestatic 192, 3) := by decide +kernel
theorem d_M_read_4 : decode prog_10_method_49_code 4 = .ok (.ifCond .ne 6, 3) := by decide +kernel
theorem d_M_read_7 : decode prog_10_method_49_code 7 = .ok (.bipush (-2), 2) := by decide +kernel
theorem d_M_read_9 : decode prog_10_method_49_code 9 = .ok (.ireturn, 1) := by decide +kernel
theorem d_M_read_10 : decode prog_10_method_49_code 10 = .ok (.aload_n 0, 1) := by decide +kernel
theorem d_M_read_11 : decode prog_10_method_49_code 11 = .ok (.getfield 92, 3) := by decide +kernel
theorem d_M_read_14 : decode prog_10_method_49_code 14 = .ok (.iload_n 1, 1) := by decide +kernel
theorem d_M_read_15 : decode prog_10_method_49_code 15 = .ok (.iaload, 1) := by decide +kernel
theorem d_M_read_16 : decode prog_10_method_49_code 16 = .ok (.ifCond .ne 5, 3) := by decide +kernel
theorem d_M_read_19 : decode prog_10_method_49_code 19 = .ok (.iconst (-1), 1) := by decide +kernel
theorem d_M_read_20 : decode prog_10_method_49_code 20 = .ok (.ireturn, 1) := by decide +kernel
theorem d_M_read_21 : decode prog_10_method_49_code 21 = .ok (.aload_n 0, 1) := by decide +kernel
theorem d_M_read_22 : decode prog_10_method_49_code 22 = .ok (.getfield 89, 3) := by decide +kernel
theorem d_M_read_25 : decode prog_10_method_49_code 25 = .ok (.iconst 4, 1) := by decide +kernel
theorem d_M_read_26 : decode prog_10_method_49_code 26 = .ok (.iload_n 1, 1) := by decide +kernel
theorem d_M_read_27 : decode prog_10_method_49_code 27 = .ok (.imul, 1) := by decide +kernel
theorem d_M_read_28 : decode prog_10_method_49_code 28 = .ok (.iaload, 1) := by decide +kernel
theorem d_M_read_29 : decode prog_10_method_49_code 29 = .ok (.istore_n 2, 1) := by decide +kernel
theorem d_M_read_30 : decode prog_10_method_49_code 30 = .ok (.aload_n 0, 1) := by decide +kernel
theorem d_M_read_31 : decode prog_10_method_49_code 31 = .ok (.getfield 92, 3) := by decide +kernel
theorem d_M_read_34 : decode prog_10_method_49_code 34 = .ok (.iload_n 1, 1) := by decide +kernel
theorem d_M_read_35 : decode prog_10_method_49_code 35 = .ok (.dup2, 1) := by decide +kernel
theorem d_M_read_36 : decode prog_10_method_49_code 36 = .ok (.iaload, 1) := by decide +kernel
theorem d_M_read_37 : decode prog_10_method_49_code 37 = .ok (.iconst 1, 1) := by decide +kernel
theorem d_M_read_38 : decode prog_10_method_49_code 38 = .ok (.isub, 1) := by decide +kernel
theorem d_M_read_39 : decode prog_10_method_49_code 39 = .ok (.iastore, 1) := by decide +kernel
theorem d_M_read_40 : decode prog_10_method_49_code 40 = .ok (.iconst 0, 1) := by decide +kernel
theorem d_M_read_41 : decode prog_10_method_49_code 41 = .ok (.istore_n 3, 1) := by decide +kernel
theorem d_M_read_42 : decode prog_10_method_49_code 42 = .ok (.iload_n 3, 1) := by decide +kernel
theorem d_M_read_43 : decode prog_10_method_49_code 43 = .ok (.aload_n 0, 1) := by decide +kernel
theorem d_M_read_44 : decode prog_10_method_49_code 44 = .ok (.getfield 92, 3) := by decide +kernel
theorem d_M_read_47 : decode prog_10_method_49_code 47 = .ok (.iload_n 1, 1) := by decide +kernel
theorem d_M_read_48 : decode prog_10_method_49_code 48 = .ok (.iaload, 1) := by decide +kernel
theorem d_M_read_49 : decode prog_10_method_49_code 49 = .ok (.if_icmp .ge 31, 3) := by decide +kernel
theorem d_M_read_52 : decode prog_10_method_49_code 52 = .ok (.aload_n 0, 1) := by decide +kernel
theorem d_M_read_53 : decode prog_10_method_49_code 53 = .ok (.getfield 89, 3) := by decide +kernel
theorem d_M_read_56 : decode prog_10_method_49_code 56 = .ok (.iconst 4, 1) := by decide +kernel
theorem d_M_read_57 : decode prog_10_method_49_code 57 = .ok (.iload_n 1, 1) := by decide +kernel
theorem d_M_read_58 : decode prog_10_method_49_code 58 = .ok (.imul, 1) := by decide +kernel
theorem d_M_read_59 : decode prog_10_method_49_code 59 = .ok (.iload_n 3, 1) := by decide +kernel
theorem d_M_read_60 : decode prog_10_method_49_code 60 = .ok (.iadd, 1) := by decide +kernel
theorem d_M_read_61 : decode prog_10_method_49_code 61 = .ok (.aload_n 0, 1) := by decide +kernel
theorem d_M_read_62 : decode prog_10_method_49_code 62 = .ok (.getfield 89, 3) := by decide +kernel
theorem d_M_read_65 : decode prog_10_method_49_code 65 = .ok (.iconst 4, 1) := by decide +kernel
theorem d_M_read_66 : decode prog_10_method_49_code 66 = .ok (.iload_n 1, 1) := by decide +kernel
theorem d_M_read_67 : decode prog_10_method_49_code 67 = .ok (.imul, 1) := by decide +kernel
theorem d_M_read_68 : decode prog_10_method_49_code 68 = .ok (.iload_n 3, 1) := by decide +kernel
theorem d_M_read_69 : decode prog_10_method_49_code 69 = .ok (.iadd, 1) := by decide +kernel
theorem d_M_read_70 : decode prog_10_method_49_code 70 = .ok (.iconst 1, 1) := by decide +kernel
theorem d_M_read_71 : decode prog_10_method_49_code 71 = .ok (.iadd, 1) := by decide +kernel
theorem d_M_read_72 : decode prog_10_method_49_code 72 = .ok (.iaload, 1) := by decide +kernel
theorem d_M_read_73 : decode prog_10_method_49_code 73 = .ok (.iastore, 1) := by decide +kernel
theorem d_M_read_74 : decode prog_10_method_49_code 74 = .ok (.iinc 3 1, 3) := by decide +kernel
theorem d_M_read_77 : decode prog_10_method_49_code 77 = .ok (.goto (-35), 3) := by decide +kernel
theorem d_M_read_80 : decode prog_10_method_49_code 80 = .ok (.aload_n 0, 1) := by decide +kernel
theorem d_M_read_81 : decode prog_10_method_49_code 81 = .ok (.iload_n 2, 1) := by decide +kernel
theorem d_M_read_82 : decode prog_10_method_49_code 82 = .ok (.aload_n 0, 1) := by decide +kernel
theorem d_M_read_83 : decode prog_10_method_49_code 83 = .ok (.getfield 55, 3) := by decide +kernel
theorem d_M_read_86 : decode prog_10_method_49_code 86 = .ok (.iconst 4, 1) := by decide +kernel
theorem d_M_read_87 : decode prog_10_method_49_code 87 = .ok (.iload_n 1, 1) := by decide +kernel
theorem d_M_read_88 : decode prog_10_method_49_code 88 = .ok (.imul, 1) := by decide +kernel
theorem d_M_read_89 : decode prog_10_method_49_code 89 = .ok (.iload_n 2, 1) := by decide +kernel
theorem d_M_read_90 : decode prog_10_method_49_code 90 = .ok (.iadd, 1) := by decide +kernel
theorem d_M_read_91 : decode prog_10_method_49_code 91 = .ok (.iaload, 1) := by decide +kernel
theorem d_M_read_92 : decode prog_10_method_49_code 92 = .ok (.invokevirtual 144, 3) := by decide +kernel
theorem d_M_read_95 : decode prog_10_method_49_code 95 = .ok (.aload_n 0, 1) := by decide +kernel
theorem d_M_read_96 : decode prog_10_method_49_code 96 = .ok (.aload_n 0, 1) := by decide +kernel
theorem d_M_read_97 : decode prog_10_method_49_code 97 = .ok (.getfield 52, 3) := by decide +kernel
theorem d_M_read_100 : decode prog_10_method_49_code 100 = .ok (.invokevirtual 169, 3) := by decide +kernel
theorem d_M_read_103 : decode prog_10_method_49_code 103 = .ok (.iconst 0, 1) := by decide +kernel
theorem d_M_read_104 : decode prog_10_method_49_code 104 = .ok (.istore_n 3, 1) := by decide +kernel
theorem d_M_read_105 : decode prog_10_method_49_code 105 = .ok (.iload_n 3, 1) := by decide +kernel
theorem d_M_read_106 : decode prog_10_method_49_code 106 = .ok (.bipush 19, 2) := by decide +kernel
theorem d_M_read_108 : decode prog_10_method_49_code 108 = .ok (.if_icmp .ge 26, 3) := by decide +kernel
theorem d_M_read_111 : decode prog_10_method_49_code 111 = .ok (.aload_n 0, 1) := by decide +kernel
theorem d_M_read_112 : decode prog_10_method_49_code 112 = .ok (.getfield 95, 3) := by decide +kernel
theorem d_M_read_115 : decode prog_10_method_49_code 115 = .ok (.bipush 19, 2) := by decide +kernel
theorem d_M_read_117 : decode prog_10_method_49_code 117 = .ok (.iload_n 1, 1) := by decide +kernel
theorem d_M_read_118 : decode prog_10_method_49_code 118 = .ok (.imul, 1) := by decide +kernel
theorem d_M_read_119 : decode prog_10_method_49_code 119 = .ok (.iload_n 3, 1) := by decide +kernel
theorem d_M_read_120 : decode prog_10_method_49_code 120 = .ok (.iadd, 1) := by decide +kernel
theorem d_M_read_121 : decode prog_10_method_49_code 121 = .ok (.aload_n 0, 1) := by decide +kernel
theorem d_M_read_122 : decode prog_10_method_49_code 122 = .ok (.getfield 52, 3) := by decide +kernel
theorem d_M_read_125 : decode prog_10_method_49_code 125 = .ok (.iload_n 3, 1) := by decide +kernel
theorem d_M_read_126 : decode prog_10_method_49_code 126 = .ok (.iaload, 1) := by decide +kernel
theorem d_M_read_127 : decode prog_10_method_49_code 127 = .ok (.iastore, 1) := by decide +kernel
theorem d_M_read_128 : decode prog_10_method_49_code 128 = .ok (.iinc 3 1, 3) := by decide +kernel
theorem d_M_read_131 : decode prog_10_method_49_code 131 = .ok (.goto (-26), 3) := by decide +kernel
theorem d_M_read_134 : decode prog_10_method_49_code 134 = .ok (.aload_n 0, 1) := by decide +kernel
theorem d_M_read_135 : decode prog_10_method_49_code 135 = .ok (.getfield 98, 3) := by decide +kernel
theorem d_M_read_138 : decode prog_10_method_49_code 138 = .ok (.iload_n 1, 1) := by decide +kernel
theorem d_M_read_139 : decode prog_10_method_49_code 139 = .ok (.iconst 1, 1) := by decide +kernel
theorem d_M_read_140 : decode prog_10_method_49_code 140 = .ok (.bastore, 1) := by decide +kernel
theorem d_M_read_141 : decode prog_10_method_49_code 141 = .ok (.iload_n 2, 1) := by decide +kernel
theorem d_M_read_142 : decode prog_10_method_49_code 142 = .ok (.ireturn, 1) := by decide +kernel
theorem d_M_view_0 : decode prog_10_method_50_code 0 = .ok (.iload_n 1, 1) := by decide +kernel
theorem d_M_view_1 : decode prog_10_method_50_code 1 = .ok (.invokestatic 192, 3) := by decide +kernel
theorem d_M_view_4 : decode prog_10_method_50_code 4 = .ok (.ifCond .eq 49, 3) := by decide +kernel
theorem d_M_view_7 : decode prog_10_method_50_code 7 = .ok (.iload_n 2, 1) := by decide +kernel
theorem d_M_view_8 : decode prog_10_method_50_code 8 = .ok (.iconst 0, 1) := by decide +kernel
theorem d_M_view_9 : decode prog_10_method_50_code 9 = .ok (.iconst 1, 1) := by decide +kernel
theorem d_M_view_10 : decode prog_10_method_50_code 10 = .ok (.invokestatic 101, 3) := by decide +kernel
theorem d_M_view_13 : decode prog_10_method_50_code 13 = .ok (.ifCond .eq 22, 3) := by decide +kernel
theorem d_M_view_16 : decode prog_10_method_50_code 16 = .ok (.iload_n 3, 1) := by decide +kernel
theorem d_M_view_17 : decode prog_10_method_50_code 17 = .ok (.iconst 0, 1) := by decide +kernel
theorem d_M_view_18 : decode prog_10_method_50_code 18 = .ok (.iconst 2, 1) := by decide +kernel
theorem d_M_view_19 : decode prog_10_method_50_code 19 = .ok (.invokestatic 101, 3) := by decide +kernel
theorem d_M_view_22 : decode prog_10_method_50_code 22 = .ok (.ifCond .eq 13, 3) := by decide +kernel
theorem d_M_view_25 : decode prog_10_method_50_code 25 = .ok (.iload 4, 2) := by decide +kernel
theorem d_M_view_27 : decode prog_10_method_50_code 27 = .ok (.iconst 0, 1) := by decide +kernel
theorem d_M_view_28 : decode prog_10_method_50_code 28 = .ok (.iconst 2, 1) := by decide +kernel
theorem d_M_view_29 : decode prog_10_method_50_code 29 = .ok (.invokestatic 101, 3) := by decide +kernel
theorem d_M_view_32 : decode prog_10_method_50_code 32 = .ok (.ifCond .ne 17, 3) := by decide +kernel
theorem d_M_view_35 : decode prog_10_method_50_code 35 = .ok (.iload_n 2, 1) := by decide +kernel
theorem d_M_view_36 : decode prog_10_method_50_code 36 = .ok (.iconst 2, 1) := by decide +kernel
theorem d_M_view_37 : decode prog_10_method_50_code 37 = .ok (.if_icmp .ne 16, 3) := by decide +kernel
theorem d_M_view_40 : decode prog_10_method_50_code 40 = .ok (.iload_n 3, 1) := by decide +kernel
theorem d_M_view_41 : decode prog_10_method_50_code 41 = .ok (.ifCond .ne 12, 3) := by decide +kernel
theorem d_M_view_44 : decode prog_10_method_50_code 44 = .ok (.iload 4, 2) := by decide +kernel
theorem d_M_view_46 : decode prog_10_method_50_code 46 = .ok (.ifCond .ne 7, 3) := by decide +kernel
theorem d_M_view_49 : decode prog_10_method_50_code 49 = .ok (.iconst 1, 1) := by decide +kernel
theorem d_M_view_50 : decode prog_10_method_50_code 50 = .ok (.goto 4, 3) := by decide +kernel
theorem d_M_view_53 : decode prog_10_method_50_code 53 = .ok (.iconst 0, 1) := by decide +kernel
theorem d_M_view_54 : decode prog_10_method_50_code 54 = .ok (.istore 5, 2) := by decide +kernel
theorem d_M_view_56 : decode prog_10_method_50_code 56 = .ok (.iload 5, 2) := by decide +kernel
theorem d_M_view_58 : decode prog_10_method_50_code 58 = .ok (.ifCond .ne 6, 3) := by decide +kernel
theorem d_M_view_61 : decode prog_10_method_50_code 61 = .ok (.ldc 213, 2) := by decide +kernel
theorem d_M_view_63 : decode prog_10_method_50_code 63 = .ok (.ireturn, 1) := by decide +kernel
theorem d_M_view_64 : decode prog_10_method_50_code 64 = .ok (.aload_n 0, 1) := by decide +kernel
theorem d_M_view_65 : decode prog_10_method_50_code 65 = .ok (.getfield 98, 3) := by decide +kernel
theorem d_M_view_68 : decode prog_10_method_50_code 68 = .ok (.iload_n 1, 1) := by decide +kernel
theorem d_M_view_69 : decode prog_10_method_50_code 69 = .ok (.baload, 1) := by decide +kernel
theorem d_M_view_70 : decode prog_10_method_50_code 70 = .ok (.ifCond .ne 6, 3) := by decide +kernel
theorem d_M_view_73 : decode prog_10_method_50_code 73 = .ok (.ldc 139, 2) := by decide +kernel
theorem d_M_view_75 : decode prog_10_method_50_code 75 = .ok (.ireturn, 1) := by decide +kernel
theorem d_M_view_76 : decode prog_10_method_50_code 76 = .ok (.iload_n 2, 1) := by decide +kernel
theorem d_M_view_77 : decode prog_10_method_50_code 77 = .ok (.iconst 2, 1) := by decide +kernel
theorem d_M_view_78 : decode prog_10_method_50_code 78 = .ok (.if_icmp .ne 18, 3) := by decide +kernel
theorem d_M_view_81 : decode prog_10_method_50_code 81 = .ok (.aload_n 0, 1) := by decide +kernel
theorem d_M_view_82 : decode prog_10_method_50_code 82 = .ok (.getfield 95, 3) := by decide +kernel
theorem d_M_view_85 : decode prog_10_method_50_code 85 = .ok (.bipush 19, 2) := by decide +kernel
theorem d_M_view_87 : decode prog_10_method_50_code 87 = .ok (.iload_n 1, 1) := by decide +kernel
theorem d_M_view_88 : decode prog_10_method_50_code 88 = .ok (.imul, 1) := by decide +kernel
theorem d_M_view_89 : decode prog_10_method_50_code 89 = .ok (.bipush 18, 2) := by decide +kernel
theorem d_M_view_91 : decode prog_10_method_50_code 91 = .ok (.iadd, 1) := by decide +kernel
theorem d_M_view_92 : decode prog_10_method_50_code 92 = .ok (.iaload, 1) := by decide +kernel
theorem d_M_view_93 : decode prog_10_method_50_code 93 = .ok (.goto 24, 3) := by decide +kernel
theorem d_M_view_96 : decode prog_10_method_50_code 96 = .ok (.aload_n 0, 1) := by decide +kernel
theorem d_M_view_97 : decode prog_10_method_50_code 97 = .ok (.getfield 95, 3) := by decide +kernel
theorem d_M_view_100 : decode prog_10_method_50_code 100 = .ok (.bipush 19, 2) := by decide +kernel
theorem d_M_view_102 : decode prog_10_method_50_code 102 = .ok (.iload_n 1, 1) := by decide +kernel
theorem d_M_view_103 : decode prog_10_method_50_code 103 = .ok (.imul, 1) := by decide +kernel
theorem d_M_view_104 : decode prog_10_method_50_code 104 = .ok (.bipush 9, 2) := by decide +kernel
theorem d_M_view_106 : decode prog_10_method_50_code 106 = .ok (.iload_n 2, 1) := by decide +kernel
theorem d_M_view_107 : decode prog_10_method_50_code 107 = .ok (.imul, 1) := by decide +kernel
theorem d_M_view_108 : decode prog_10_method_50_code 108 = .ok (.iadd, 1) := by decide +kernel
theorem d_M_view_109 : decode prog_10_method_50_code 109 = .ok (.iconst 3, 1) := by decide +kernel
theorem d_M_view_110 : decode prog_10_method_50_code 110 = .ok (.iload_n 3, 1) := by decide +kernel
theorem d_M_view_111 : decode prog_10_method_50_code 111 = .ok (.imul, 1) := by decide +kernel
theorem d_M_view_112 : decode prog_10_method_50_code 112 = .ok (.iadd, 1) := by decide +kernel
theorem d_M_view_113 : decode prog_10_method_50_code 113 = .ok (.iload 4, 2) := by decide +kernel
theorem d_M_view_115 : decode prog_10_method_50_code 115 = .ok (.iadd, 1) := by decide +kernel
theorem d_M_view_116 : decode prog_10_method_50_code 116 = .ok (.iaload, 1) := by decide +kernel
theorem d_M_view_117 : decode prog_10_method_50_code 117 = .ok (.ireturn, 1) := by decide +kernel
