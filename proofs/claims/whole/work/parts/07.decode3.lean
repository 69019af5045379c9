/-! the instructions (by program, from the listing) -/
theorem d_M_perform_0 : decode prog_10_method_8_code 0 = .ok (.aload_n 0, 1) := by decide +kernel
theorem d_M_perform_1 : decode prog_10_method_8_code 1 = .ok (.aload_n 0, 1) := by decide +kernel
theorem d_M_perform_2 : decode prog_10_method_8_code 2 = .ok (.getfield 19, 3) := by decide +kernel
theorem d_M_perform_5 : decode prog_10_method_8_code 5 = .ok (.iload_n 1, 1) := by decide +kernel
theorem d_M_perform_6 : decode prog_10_method_8_code 6 = .ok (.iaload, 1) := by decide +kernel
theorem d_M_perform_7 : decode prog_10_method_8_code 7 = .ok (.invokevirtual 110, 3) := by decide +kernel
theorem d_M_perform_10 : decode prog_10_method_8_code 10 = .ok (.istore_n 2, 1) := by decide +kernel
theorem d_M_perform_11 : decode prog_10_method_8_code 11 = .ok (.aload_n 0, 1) := by decide +kernel
theorem d_M_perform_12 : decode prog_10_method_8_code 12 = .ok (.getfield 7, 3) := by decide +kernel
theorem d_M_perform_15 : decode prog_10_method_8_code 15 = .ok (.iload_n 1, 1) := by decide +kernel
theorem d_M_perform_16 : decode prog_10_method_8_code 16 = .ok (.iaload, 1) := by decide +kernel
theorem d_M_perform_17 : decode prog_10_method_8_code 17 = .ok (.ifCond .ne 73, 3) := by decide +kernel
theorem d_M_perform_20 : decode prog_10_method_8_code 20 = .ok (.aload_n 0, 1) := by decide +kernel
theorem d_M_perform_21 : decode prog_10_method_8_code 21 = .ok (.getfield 37, 3) := by decide +kernel
theorem d_M_perform_24 : decode prog_10_method_8_code 24 = .ok (.aload_n 0, 1) := by decide +kernel
theorem d_M_perform_25 : decode prog_10_method_8_code 25 = .ok (.getfield 106, 3) := by decide +kernel
theorem d_M_perform_28 : decode prog_10_method_8_code 28 = .ok (.aload_n 0, 1) := by decide +kernel
theorem d_M_perform_29 : decode prog_10_method_8_code 29 = .ok (.getfield 19, 3) := by decide +kernel
theorem d_M_perform_32 : decode prog_10_method_8_code 32 = .ok (.iload_n 1, 1) := by decide +kernel
theorem d_M_perform_33 : decode prog_10_method_8_code 33 = .ok (.iaload, 1) := by decide +kernel
theorem d_M_perform_34 : decode prog_10_method_8_code 34 = .ok (.iastore, 1) := by decide +kernel
theorem d_M_perform_35 : decode prog_10_method_8_code 35 = .ok (.aload_n 0, 1) := by decide +kernel
theorem d_M_perform_36 : decode prog_10_method_8_code 36 = .ok (.getfield 40, 3) := by decide +kernel
theorem d_M_perform_39 : decode prog_10_method_8_code 39 = .ok (.aload_n 0, 1) := by decide +kernel
theorem d_M_perform_40 : decode prog_10_method_8_code 40 = .ok (.getfield 106, 3) := by decide +kernel
theorem d_M_perform_43 : decode prog_10_method_8_code 43 = .ok (.aload_n 0, 1) := by decide +kernel
theorem d_M_perform_44 : decode prog_10_method_8_code 44 = .ok (.getfield 22, 3) := by decide +kernel
theorem d_M_perform_47 : decode prog_10_method_8_code 47 = .ok (.iload_n 1, 1) := by decide +kernel
theorem d_M_perform_48 : decode prog_10_method_8_code 48 = .ok (.iaload, 1) := by decide +kernel
theorem d_M_perform_49 : decode prog_10_method_8_code 49 = .ok (.iastore, 1) := by decide +kernel
theorem d_M_perform_50 : decode prog_10_method_8_code 50 = .ok (.aload_n 0, 1) := by decide +kernel
theorem d_M_perform_51 : decode prog_10_method_8_code 51 = .ok (.getfield 43, 3) := by decide +kernel
theorem d_M_perform_54 : decode prog_10_method_8_code 54 = .ok (.aload_n 0, 1) := by decide +kernel
theorem d_M_perform_55 : decode prog_10_method_8_code 55 = .ok (.getfield 106, 3) := by decide +kernel
theorem d_M_perform_58 : decode prog_10_method_8_code 58 = .ok (.aload_n 0, 1) := by decide +kernel
theorem d_M_perform_59 : decode prog_10_method_8_code 59 = .ok (.getfield 25, 3) := by decide +kernel
theorem d_M_perform_62 : decode prog_10_method_8_code 62 = .ok (.iload_n 1, 1) := by decide +kernel
theorem d_M_perform_63 : decode prog_10_method_8_code 63 = .ok (.iaload, 1) := by decide +kernel
theorem d_M_perform_64 : decode prog_10_method_8_code 64 = .ok (.iastore, 1) := by decide +kernel
theorem d_M_perform_65 : decode prog_10_method_8_code 65 = .ok (.aload_n 0, 1) := by decide +kernel
theorem d_M_perform_66 : decode prog_10_method_8_code 66 = .ok (.getfield 46, 3) := by decide +kernel
theorem d_M_perform_69 : decode prog_10_method_8_code 69 = .ok (.aload_n 0, 1) := by decide +kernel
theorem d_M_perform_70 : decode prog_10_method_8_code 70 = .ok (.getfield 106, 3) := by decide +kernel
theorem d_M_perform_73 : decode prog_10_method_8_code 73 = .ok (.aload_n 0, 1) := by decide +kernel
theorem d_M_perform_74 : decode prog_10_method_8_code 74 = .ok (.getfield 28, 3) := by decide +kernel
theorem d_M_perform_77 : decode prog_10_method_8_code 77 = .ok (.iload_n 1, 1) := by decide +kernel
theorem d_M_perform_78 : decode prog_10_method_8_code 78 = .ok (.iaload, 1) := by decide +kernel
theorem d_M_perform_79 : decode prog_10_method_8_code 79 = .ok (.iastore, 1) := by decide +kernel
theorem d_M_perform_80 : decode prog_10_method_8_code 80 = .ok (.aload_n 0, 1) := by decide +kernel
theorem d_M_perform_81 : decode prog_10_method_8_code 81 = .ok (.dup, 1) := by decide +kernel
theorem d_M_perform_82 : decode prog_10_method_8_code 82 = .ok (.getfield 106, 3) := by decide +kernel
theorem d_M_perform_85 : decode prog_10_method_8_code 85 = .ok (.iconst 1, 1) := by decide +kernel
theorem d_M_perform_86 : decode prog_10_method_8_code 86 = .ok (.iadd, 1) := by decide +kernel
theorem d_M_perform_87 : decode prog_10_method_8_code 87 = .ok (.putfield 106, 3) := by decide +kernel
theorem d_M_perform_90 : decode prog_10_method_8_code 90 = .ok (.aload_n 0, 1) := by decide +kernel
theorem d_M_perform_91 : decode prog_10_method_8_code 91 = .ok (.getfield 7, 3) := by decide +kernel
theorem d_M_perform_94 : decode prog_10_method_8_code 94 = .ok (.iload_n 1, 1) := by decide +kernel
theorem d_M_perform_95 : decode prog_10_method_8_code 95 = .ok (.iaload, 1) := by decide +kernel
theorem d_M_perform_96 : decode prog_10_method_8_code 96 = .ok (.iconst 1, 1) := by decide +kernel
theorem d_M_perform_97 : decode prog_10_method_8_code 97 = .ok (.if_icmp .ne 15, 3) := by decide +kernel
theorem d_M_perform_100 : decode prog_10_method_8_code 100 = .ok (.aload_n 0, 1) := by decide +kernel
theorem d_M_perform_101 : decode prog_10_method_8_code 101 = .ok (.getfield 46, 3) := by decide +kernel
theorem d_M_perform_104 : decode prog_10_method_8_code 104 = .ok (.iload_n 2, 1) := by decide +kernel
theorem d_M_perform_105 : decode prog_10_method_8_code 105 = .ok (.aload_n 0, 1) := by decide +kernel
theorem d_M_perform_106 : decode prog_10_method_8_code 106 = .ok (.getfield 28, 3) := by decide +kernel
theorem d_M_perform_109 : decode prog_10_method_8_code 109 = .ok (.iload_n 1, 1) := by decide +kernel
theorem d_M_perform_110 : decode prog_10_method_8_code 110 = .ok (.iaload, 1) := by decide +kernel
theorem d_M_perform_111 : decode prog_10_method_8_code 111 = .ok (.iastore, 1) := by decide +kernel
theorem d_M_perform_112 : decode prog_10_method_8_code 112 = .ok (.aload_n 0, 1) := by decide +kernel
theorem d_M_perform_113 : decode prog_10_method_8_code 113 = .ok (.getfield 7, 3) := by decide +kernel
theorem d_M_perform_116 : decode prog_10_method_8_code 116 = .ok (.iload_n 1, 1) := by decide +kernel
theorem d_M_perform_117 : decode prog_10_method_8_code 117 = .ok (.iaload, 1) := by decide +kernel
theorem d_M_perform_118 : decode prog_10_method_8_code 118 = .ok (.iconst 2, 1) := by decide +kernel
theorem d_M_perform_119 : decode prog_10_method_8_code 119 = .ok (.if_icmp .ne 32, 3) := by decide +kernel
theorem d_M_perform_122 : decode prog_10_method_8_code 122 = .ok (.aload_n 0, 1) := by decide +kernel
theorem d_M_perform_123 : decode prog_10_method_8_code 123 = .ok (.getfield 46, 3) := by decide +kernel
theorem d_M_perform_126 : decode prog_10_method_8_code 126 = .ok (.iload_n 2, 1) := by decide +kernel
theorem d_M_perform_127 : decode prog_10_method_8_code 127 = .ok (.dup2, 1) := by decide +kernel
theorem d_M_perform_128 : decode prog_10_method_8_code 128 = .ok (.iaload, 1) := by decide +kernel
theorem d_M_perform_129 : decode prog_10_method_8_code 129 = .ok (.aload_n 0, 1) := by decide +kernel
theorem d_M_perform_130 : decode prog_10_method_8_code 130 = .ok (.getfield 28, 3) := by decide +kernel
theorem d_M_perform_133 : decode prog_10_method_8_code 133 = .ok (.iload_n 1, 1) := by decide +kernel
theorem d_M_perform_134 : decode prog_10_method_8_code 134 = .ok (.iaload, 1) := by decide +kernel
theorem d_M_perform_135 : decode prog_10_method_8_code 135 = .ok (.isub, 1) := by decide +kernel
theorem d_M_perform_136 : decode prog_10_method_8_code 136 = .ok (.iastore, 1) := by decide +kernel
theorem d_M_perform_137 : decode prog_10_method_8_code 137 = .ok (.aload_n 0, 1) := by decide +kernel
theorem d_M_perform_138 : decode prog_10_method_8_code 138 = .ok (.getfield 46, 3) := by decide +kernel
theorem d_M_perform_141 : decode prog_10_method_8_code 141 = .ok (.iload_n 2, 1) := by decide +kernel
theorem d_M_perform_142 : decode prog_10_method_8_code 142 = .ok (.iaload, 1) := by decide +kernel
theorem d_M_perform_143 : decode prog_10_method_8_code 143 = .ok (.ifCond .ne 8, 3) := by decide +kernel
theorem d_M_perform_146 : decode prog_10_method_8_code 146 = .ok (.aload_n 0, 1) := by decide +kernel
theorem d_M_perform_147 : decode prog_10_method_8_code 147 = .ok (.iload_n 2, 1) := by decide +kernel
theorem d_M_perform_148 : decode prog_10_method_8_code 148 = .ok (.invokevirtual 114, 3) := by decide +kernel
theorem d_M_perform_151 : decode prog_10_method_8_code 151 = .ok (.aload_n 0, 1) := by decide +kernel
theorem d_M_perform_152 : decode prog_10_method_8_code 152 = .ok (.getfield 7, 3) := by decide +kernel
theorem d_M_perform_155 : decode prog_10_method_8_code 155 = .ok (.iload_n 1, 1) := by decide +kernel
theorem d_M_perform_156 : decode prog_10_method_8_code 156 = .ok (.iaload, 1) := by decide +kernel
theorem d_M_perform_157 : decode prog_10_method_8_code 157 = .ok (.iconst 3, 1) := by decide +kernel
theorem d_M_perform_158 : decode prog_10_method_8_code 158 = .ok (.if_icmp .ne 8, 3) := by decide +kernel
theorem d_M_perform_161 : decode prog_10_method_8_code 161 = .ok (.aload_n 0, 1) := by decide +kernel
theorem d_M_perform_162 : decode prog_10_method_8_code 162 = .ok (.iload_n 2, 1) := by decide +kernel
theorem d_M_perform_163 : decode prog_10_method_8_code 163 = .ok (.invokevirtual 114, 3) := by decide +kernel
theorem d_M_perform_166 : decode prog_10_method_8_code 166 = .ok (.aload_n 0, 1) := by decide +kernel
theorem d_M_perform_167 : decode prog_10_method_8_code 167 = .ok (.getfield 7, 3) := by decide +kernel
theorem d_M_perform_170 : decode prog_10_method_8_code 170 = .ok (.iload_n 1, 1) := by decide +kernel
theorem d_M_perform_171 : decode prog_10_method_8_code 171 = .ok (.iaload, 1) := by decide +kernel
theorem d_M_perform_172 : decode prog_10_method_8_code 172 = .ok (.iconst 4, 1) := by decide +kernel
theorem d_M_perform_173 : decode prog_10_method_8_code 173 = .ok (.if_icmp .ne 22, 3) := by decide +kernel
theorem d_M_perform_176 : decode prog_10_method_8_code 176 = .ok (.aload_n 0, 1) := by decide +kernel
theorem d_M_perform_177 : decode prog_10_method_8_code 177 = .ok (.aload_n 0, 1) := by decide +kernel
theorem d_M_perform_178 : decode prog_10_method_8_code 178 = .ok (.getfield 28, 3) := by decide +kernel
theorem d_M_perform_181 : decode prog_10_method_8_code 181 = .ok (.iload_n 1, 1) := by decide +kernel
theorem d_M_perform_182 : decode prog_10_method_8_code 182 = .ok (.iaload, 1) := by decide +kernel
theorem d_M_perform_183 : decode prog_10_method_8_code 183 = .ok (.iconst 1, 1) := by decide +kernel
theorem d_M_perform_184 : decode prog_10_method_8_code 184 = .ok (.if_icmp .ne 7, 3) := by decide +kernel
theorem d_M_perform_187 : decode prog_10_method_8_code 187 = .ok (.iconst 1, 1) := by decide +kernel
theorem d_M_perform_188 : decode prog_10_method_8_code 188 = .ok (.goto 4, 3) := by decide +kernel
theorem d_M_perform_191 : decode prog_10_method_8_code 191 = .ok (.iconst 0, 1) := by decide +kernel
theorem d_M_perform_192 : decode prog_10_method_8_code 192 = .ok (.putfield 118, 3) := by decide +kernel
theorem d_M_perform_195 : decode prog_10_method_8_code 195 = .ok (.aload_n 0, 1) := by decide +kernel
theorem d_M_perform_196 : decode prog_10_method_8_code 196 = .ok (.getfield 7, 3) := by decide +kernel
theorem d_M_perform_199 : decode prog_10_method_8_code 199 = .ok (.iload_n 1, 1) := by decide +kernel
theorem d_M_perform_200 : decode prog_10_method_8_code 200 = .ok (.iaload, 1) := by decide +kernel
theorem d_M_perform_201 : decode prog_10_method_8_code 201 = .ok (.iconst 5, 1) := by decide +kernel
theorem d_M_perform_202 : decode prog_10_method_8_code 202 = .ok (.if_icmp .ne 8, 3) := by decide +kernel
theorem d_M_perform_205 : decode prog_10_method_8_code 205 = .ok (.aload_n 0, 1) := by decide +kernel
theorem d_M_perform_206 : decode prog_10_method_8_code 206 = .ok (.iconst 0, 1) := by decide +kernel
theorem d_M_perform_207 : decode prog_10_method_8_code 207 = .ok (.putfield 106, 3) := by decide +kernel
theorem d_M_perform_210 : decode prog_10_method_8_code 210 = .ok (.return_, 1) := by decide +kernel
theorem d_M_find_0 : decode prog_10_method_6_code 0 = .ok (.iconst 0, 1) := by decide +kernel
theorem d_M_find_1 : decode prog_10_method_6_code 1 = .ok (.istore_n 2, 1) := by decide +kernel
theorem d_M_find_2 : decode prog_10_method_6_code 2 = .ok (.iload_n 2, 1) := by decide +kernel
theorem d_M_find_3 : decode prog_10_method_6_code 3 = .ok (.aload_n 0, 1) := by decide +kernel
theorem d_M_find_4 : decode prog_10_method_6_code 4 = .ok (.getfield 106, 3) := by decide +kernel
theorem d_M_find_7 : decode prog_10_method_6_code 7 = .ok (.if_icmp .ge 21, 3) := by decide +kernel
theorem d_M_find_10 : decode prog_10_method_6_code 10 = .ok (.aload_n 0, 1) := by decide +kernel
theorem d_M_find_11 : decode prog_10_method_6_code 11 = .ok (.getfield 37, 3) := by decide +kernel
theorem d_M_find_14 : decode prog_10_method_6_code 14 = .ok (.iload_n 2, 1) := by decide +kernel
theorem d_M_find_15 : decode prog_10_method_6_code 15 = .ok (.iaload, 1) := by decide +kernel
theorem d_M_find_16 : decode prog_10_method_6_code 16 = .ok (.iload_n 1, 1) := by decide +kernel
theorem d_M_find_17 : decode prog_10_method_6_code 17 = .ok (.if_icmp .ne 5, 3) := by decide +kernel
theorem d_M_find_20 : decode prog_10_method_6_code 20 = .ok (.iload_n 2, 1) := by decide +kernel
theorem d_M_find_21 : decode prog_10_method_6_code 21 = .ok (.ireturn, 1) := by decide +kernel
theorem d_M_find_22 : decode prog_10_method_6_code 22 = .ok (.iinc 2 1, 3) := by decide +kernel
theorem d_M_find_25 : decode prog_10_method_6_code 25 = .ok (.goto (-23), 3) := by decide +kernel
theorem d_M_find_28 : decode prog_10_method_6_code 28 = .ok (.iconst (-1), 1) := by decide +kernel
theorem d_M_find_29 : decode prog_10_method_6_code 29 = .ok (.ireturn, 1) := by decide +kernel
theorem d_M_drop_0 : decode prog_10_method_7_code 0 = .ok (.aload_n 0, 1) := by decide +kernel
theorem d_M_drop_1 : decode prog_10_method_7_code 1 = .ok (.dup, 1) := by decide +kernel
theorem d_M_drop_2 : decode prog_10_method_7_code 2 = .ok (.getfield 106, 3) := by decide +kernel
theorem d_M_drop_5 : decode prog_10_method_7_code 5 = .ok (.iconst 1, 1) := by decide +kernel
theorem d_M_drop_6 : decode prog_10_method_7_code 6 = .ok (.isub, 1) := by decide +kernel
theorem d_M_drop_7 : decode prog_10_method_7_code 7 = .ok (.putfield 106, 3) := by decide +kernel
theorem d_M_drop_10 : decode prog_10_method_7_code 10 = .ok (.iload_n 1, 1) := by decide +kernel
theorem d_M_drop_11 : decode prog_10_method_7_code 11 = .ok (.istore_n 2, 1) := by decide +kernel
theorem d_M_drop_12 : decode prog_10_method_7_code 12 = .ok (.iload_n 2, 1) := by decide +kernel
theorem d_M_drop_13 : decode prog_10_method_7_code 13 = .ok (.aload_n 0, 1) := by decide +kernel
theorem d_M_drop_14 : decode prog_10_method_7_code 14 = .ok (.getfield 106, 3) := by decide +kernel
theorem d_M_drop_17 : decode prog_10_method_7_code 17 = .ok (.if_icmp .ge 65, 3) := by decide +kernel
theorem d_M_drop_20 : decode prog_10_method_7_code 20 = .ok (.aload_n 0, 1) := by decide +kernel
theorem d_M_drop_21 : decode prog_10_method_7_code 21 = .ok (.getfield 37, 3) := by decide +kernel
theorem d_M_drop_24 : decode prog_10_method_7_code 24 = .ok (.iload_n 2, 1) := by decide +kernel
theorem d_M_drop_25 : decode prog_10_method_7_code 25 = .ok (.aload_n 0, 1) := by decide +kernel
theorem d_M_drop_26 : decode prog_10_method_7_code 26 = .ok (.getfield 37, 3) := by decide +kernel
theorem d_M_drop_29 : decode prog_10_method_7_code 29 = .ok (.iload_n 2, 1) := by decide +kernel
theorem d_M_drop_30 : decode prog_10_method_7_code 30 = .ok (.iconst 1, 1) := by decide +kernel
theorem d_M_drop_31 : decode prog_10_method_7_code 31 = .ok (.iadd, 1) := by decide +kernel
theorem d_M_drop_32 : decode prog_10_method_7_code 32 = .ok (.iaload, 1) := by decide +kernel
theorem d_M_drop_33 : decode prog_10_method_7_code 33 = .ok (.iastore, 1) := by decide +kernel
theorem d_M_drop_34 : decode prog_10_method_7_code 34 = .ok (.aload_n 0, 1) := by decide +kernel
theorem d_M_drop_35 : decode prog_10_method_7_code 35 = .ok (.getfield 40, 3) := by decide +kernel
theorem d_M_drop_38 : decode prog_10_method_7_code 38 = .ok (.iload_n 2, 1) := by decide +kernel
theorem d_M_drop_39 : decode prog_10_method_7_code 39 = .ok (.aload_n 0, 1) := by decide +kernel
theorem d_M_drop_40 : decode prog_10_method_7_code 40 = .ok (.getfield 40, 3) := by decide +kernel
theorem d_M_drop_43 : decode prog_10_method_7_code 43 = .ok (.iload_n 2, 1) := by decide +kernel
theorem d_M_drop_44 : decode prog_10_method_7_code 44 = .ok (.iconst 1, 1) := by decide +kernel
theorem d_M_drop_45 : decode prog_10_method_7_code 45 = .ok (.iadd, 1) := by decide +kernel
theorem d_M_drop_46 : decode prog_10_method_7_code 46 = .ok (.iaload, 1) := by decide +kernel
theorem d_M_drop_47 : decode prog_10_method_7_code 47 = .ok (.iastore, 1) := by decide +kernel
theorem d_M_drop_48 : decode prog_10_method_7_code 48 = .ok (.aload_n 0, 1) := by decide +kernel
theorem d_M_drop_49 : decode prog_10_method_7_code 49 = .ok (.getfield 43, 3) := by decide +kernel
theorem d_M_drop_52 : decode prog_10_method_7_code 52 = .ok (.iload_n 2, 1) := by decide +kernel
theorem d_M_drop_53 : decode prog_10_method_7_code 53 = .ok (.aload_n 0, 1) := by decide +kernel
theorem d_M_drop_54 : decode prog_10_method_7_code 54 = .ok (.getfield 43, 3) := by decide +kernel
theorem d_M_drop_57 : decode prog_10_method_7_code 57 = .ok (.iload_n 2, 1) := by decide +kernel
theorem d_M_drop_58 : decode prog_10_method_7_code 58 = .ok (.iconst 1, 1) := by decide +kernel
theorem d_M_drop_59 : decode prog_10_method_7_code 59 = .ok (.iadd, 1) := by decide +kernel
theorem d_M_drop_60 : decode prog_10_method_7_code 60 = .ok (.iaload, 1) := by decide +kernel
theorem d_M_drop_61 : decode prog_10_method_7_code 61 = .ok (.iastore, 1) := by decide +kernel
theorem d_M_drop_62 : decode prog_10_method_7_code 62 = .ok (.aload_n 0, 1) := by decide +kernel
theorem d_M_drop_63 : decode prog_10_method_7_code 63 = .ok (.getfield 46, 3) := by decide +kernel
theorem d_M_drop_66 : decode prog_10_method_7_code 66 = .ok (.iload_n 2, 1) := by decide +kernel
theorem d_M_drop_67 : decode prog_10_method_7_code 67 = .ok (.aload_n 0, 1) := by decide +kernel
theorem d_M_drop_68 : decode prog_10_method_7_code 68 = .ok (.getfield 46, 3) := by decide +kernel
theorem d_M_drop_71 : decode prog_10_method_7_code 71 = .ok (.iload_n 2, 1) := by decide +kernel
theorem d_M_drop_72 : decode prog_10_method_7_code 72 = .ok (.iconst 1, 1) := by decide +kernel
theorem d_M_drop_73 : decode prog_10_method_7_code 73 = .ok (.iadd, 1) := by decide +kernel
theorem d_M_drop_74 : decode prog_10_method_7_code 74 = .ok (.iaload, 1) := by decide +kernel
theorem d_M_drop_75 : decode prog_10_method_7_code 75 = .ok (.iastore, 1) := by decide +kernel
theorem d_M_drop_76 : decode prog_10_method_7_code 76 = .ok (.iinc 2 1, 3) := by decide +kernel
theorem d_M_drop_79 : decode prog_10_method_7_code 79 = .ok (.goto (-67), 3) := by decide +kernel
theorem d_M_drop_82 : decode prog_10_method_7_code 82 = .ok (.return_, 1) := by decide +kernel
theorem d_M_change_0 : decode prog_10_method_17_code 0 = .ok (.iload_n 1, 1) := by decide +kernel
theorem d_M_change_1 : decode prog_10_method_17_code 1 = .ok (.invokestatic 151, 3) := by decide +kernel
theorem d_M_change_4 : decode prog_10_method_17_code 4 = .ok (.ifCond .eq 33, 3) := by decide +kernel
theorem d_M_change_7 : decode prog_10_method_17_code 7 = .ok (.iload_n 2, 1) := by decide +kernel
theorem d_M_change_8 : decode prog_10_method_17_code 8 = .ok (.invokestatic 155, 3) := by decide +kernel
theorem d_M_change_11 : decode prog_10_method_17_code 11 = .ok (.ifCond .eq 26, 3) := by decide +kernel
theorem d_M_change_14 : decode prog_10_method_17_code 14 = .ok (.iload_n 3, 1) := by decide +kernel
theorem d_M_change_15 : decode prog_10_method_17_code 15 = .ok (.iconst 1, 1) := by decide +kernel
theorem d_M_change_16 : decode prog_10_method_17_code 16 = .ok (.ldc 105, 2) := by decide +kernel
theorem d_M_change_18 : decode prog_10_method_17_code 18 = .ok (.invokestatic 101, 3) := by decide +kernel
theorem d_M_change_21 : decode prog_10_method_17_code 21 = .ok (.ifCond .eq 16, 3) := by decide +kernel
theorem d_M_change_24 : decode prog_10_method_17_code 24 = .ok (.aload_n 0, 1) := by decide +kernel
theorem d_M_change_25 : decode prog_10_method_17_code 25 = .ok (.iconst 1, 1) := by decide +kernel
theorem d_M_change_26 : decode prog_10_method_17_code 26 = .ok (.iload_n 1, 1) := by decide +kernel
theorem d_M_change_27 : decode prog_10_method_17_code 27 = .ok (.iload_n 2, 1) := by decide +kernel
theorem d_M_change_28 : decode prog_10_method_17_code 28 = .ok (.iconst 0, 1) := by decide +kernel
theorem d_M_change_29 : decode prog_10_method_17_code 29 = .ok (.iconst 0, 1) := by decide +kernel
theorem d_M_change_30 : decode prog_10_method_17_code 30 = .ok (.iload_n 3, 1) := by decide +kernel
theorem d_M_change_31 : decode prog_10_method_17_code 31 = .ok (.invokevirtual 159, 3) := by decide +kernel
theorem d_M_change_34 : decode prog_10_method_17_code 34 = .ok (.goto 5, 3) := by decide +kernel
theorem d_M_change_37 : decode prog_10_method_17_code 37 = .ok (.bipush (-2), 2) := by decide +kernel
theorem d_M_change_39 : decode prog_10_method_17_code 39 = .ok (.ireturn, 1) := by decide +kernel
theorem d_M_execute_0 : decode prog_10_method_18_code 0 = .ok (.iload_n 1, 1) := by decide +kernel
theorem d_M_execute_1 : decode prog_10_method_18_code 1 = .ok (.invokestatic 151, 3) := by decide +kernel
theorem d_M_execute_4 : decode prog_10_method_18_code 4 = .ok (.ifCond .eq 33, 3) := by decide +kernel
theorem d_M_execute_7 : decode prog_10_method_18_code 7 = .ok (.iload_n 2, 1) := by decide +kernel
theorem d_M_execute_8 : decode prog_10_method_18_code 8 = .ok (.invokestatic 155, 3) := by decide +kernel
theorem d_M_execute_11 : decode prog_10_method_18_code 11 = .ok (.ifCond .eq 26, 3) := by decide +kernel
theorem d_M_execute_14 : decode prog_10_method_18_code 14 = .ok (.iload_n 3, 1) := by decide +kernel
theorem d_M_execute_15 : decode prog_10_method_18_code 15 = .ok (.iconst 1, 1) := by decide +kernel
theorem d_M_execute_16 : decode prog_10_method_18_code 16 = .ok (.ldc 105, 2) := by decide +kernel
theorem d_M_execute_18 : decode prog_10_method_18_code 18 = .ok (.invokestatic 101, 3) := by decide +kernel
theorem d_M_execute_21 : decode prog_10_method_18_code 21 = .ok (.ifCond .eq 16, 3) := by decide +kernel
theorem d_M_execute_24 : decode prog_10_method_18_code 24 = .ok (.aload_n 0, 1) := by decide +kernel
theorem d_M_execute_25 : decode prog_10_method_18_code 25 = .ok (.iconst 2, 1) := by decide +kernel
theorem d_M_execute_26 : decode prog_10_method_18_code 26 = .ok (.iload_n 1, 1) := by decide +kernel
theorem d_M_execute_27 : decode prog_10_method_18_code 27 = .ok (.iload_n 2, 1) := by decide +kernel
theorem d_M_execute_28 : decode prog_10_method_18_code 28 = .ok (.iconst 0, 1) := by decide +kernel
theorem d_M_execute_29 : decode prog_10_method_18_code 29 = .ok (.iconst 0, 1) := by decide +kernel
theorem d_M_execute_30 : decode prog_10_method_18_code 30 = .ok (.iload_n 3, 1) := by decide +kernel
theorem d_M_execute_31 : decode prog_10_method_18_code 31 = .ok (.invokevirtual 159, 3) := by decide +kernel
theorem d_M_execute_34 : decode prog_10_method_18_code 34 = .ok (.goto 5, 3) := by decide +kernel
theorem d_M_execute_37 : decode prog_10_method_18_code 37 = .ok (.bipush (-2), 2) := by decide +kernel
theorem d_M_execute_39 : decode prog_10_method_18_code 39 = .ok (.ireturn, 1) := by decide +kernel
theorem d_M_cancel_0 : decode prog_10_method_19_code 0 = .ok (.iload_n 1, 1) := by decide +kernel
theorem d_M_cancel_1 : decode prog_10_method_19_code 1 = .ok (.invokestatic 151, 3) := by decide +kernel
theorem d_M_cancel_4 : decode prog_10_method_19_code 4 = .ok (.ifCond .eq 23, 3) := by decide +kernel
theorem d_M_cancel_7 : decode prog_10_method_19_code 7 = .ok (.iload_n 2, 1) := by decide +kernel
theorem d_M_cancel_8 : decode prog_10_method_19_code 8 = .ok (.invokestatic 155, 3) := by decide +kernel
theorem d_M_cancel_11 : decode prog_10_method_19_code 11 = .ok (.ifCond .eq 16, 3) := by decide +kernel
theorem d_M_cancel_14 : decode prog_10_method_19_code 14 = .ok (.aload_n 0, 1) := by decide +kernel
theorem d_M_cancel_15 : decode prog_10_method_19_code 15 = .ok (.iconst 3, 1) := by decide +kernel
theorem d_M_cancel_16 : decode prog_10_method_19_code 16 = .ok (.iload_n 1, 1) := by decide +kernel
theorem d_M_cancel_17 : decode prog_10_method_19_code 17 = .ok (.iload_n 2, 1) := by decide +kernel
theorem d_M_cancel_18 : decode prog_10_method_19_code 18 = .ok (.iconst 0, 1) := by decide +kernel
theorem d_M_cancel_19 : decode prog_10_method_19_code 19 = .ok (.iconst 0, 1) := by decide +kernel
theorem d_M_cancel_20 : decode prog_10_method_19_code 20 = .ok (.iconst 0, 1) := by decide +kernel
theorem d_M_cancel_21 : decode prog_10_method_19_code 21 = .ok (.invokevirtual 159, 3) := by decide +kernel
theorem d_M_cancel_24 : decode prog_10_method_19_code 24 = .ok (.goto 5, 3) := by decide +kernel
theorem d_M_cancel_27 : decode prog_10_method_19_code 27 = .ok (.bipush (-2), 2) := by decide +kernel
theorem d_M_cancel_29 : decode prog_10_method_19_code 29 = .ok (.ireturn, 1) := by decide +kernel
theorem d_M_halt_0 : decode prog_10_method_20_code 0 = .ok (.iload_n 1, 1) := by decide +kernel
theorem d_M_halt_1 : decode prog_10_method_20_code 1 = .ok (.invokestatic 151, 3) := by decide +kernel
theorem d_M_halt_4 : decode prog_10_method_20_code 4 = .ok (.ifCond .eq 24, 3) := by decide +kernel
theorem d_M_halt_7 : decode prog_10_method_20_code 7 = .ok (.aload_n 0, 1) := by decide +kernel
theorem d_M_halt_8 : decode prog_10_method_20_code 8 = .ok (.iconst 4, 1) := by decide +kernel
theorem d_M_halt_9 : decode prog_10_method_20_code 9 = .ok (.iload_n 1, 1) := by decide +kernel
theorem d_M_halt_10 : decode prog_10_method_20_code 10 = .ok (.iconst 0, 1) := by decide +kernel
theorem d_M_halt_11 : decode prog_10_method_20_code 11 = .ok (.iconst 0, 1) := by decide +kernel
theorem d_M_halt_12 : decode prog_10_method_20_code 12 = .ok (.iconst 0, 1) := by decide +kernel
theorem d_M_halt_13 : decode prog_10_method_20_code 13 = .ok (.iload_n 2, 1) := by decide +kernel
theorem d_M_halt_14 : decode prog_10_method_20_code 14 = .ok (.ifCond .eq 7, 3) := by decide +kernel
theorem d_M_halt_17 : decode prog_10_method_20_code 17 = .ok (.iconst 1, 1) := by decide +kernel
theorem d_M_halt_18 : decode prog_10_method_20_code 18 = .ok (.goto 4, 3) := by decide +kernel
theorem d_M_halt_21 : decode prog_10_method_20_code 21 = .ok (.iconst 0, 1) := by decide +kernel
theorem d_M_halt_22 : decode prog_10_method_20_code 22 = .ok (.invokevirtual 159, 3) := by decide +kernel
theorem d_M_halt_25 : decode prog_10_method_20_code 25 = .ok (.goto 5, 3) := by decide +kernel
theorem d_M_halt_28 : decode prog_10_method_20_code 28 = .ok (.bipush (-2), 2) := by decide +kernel
theorem d_M_halt_30 : decode prog_10_method_20_code 30 = .ok (.ireturn, 1) := by decide +kernel
theorem d_M_clear_0 : decode prog_10_method_21_code 0 = .ok (.iload_n 1, 1) := by decide +kernel
theorem d_M_clear_1 : decode prog_10_method_21_code 1 = .ok (.invokestatic 151, 3) := by decide +kernel
theorem d_M_clear_4 : decode prog_10_method_21_code 4 = .ok (.ifCond .eq 16, 3) := by decide +kernel
theorem d_M_clear_7 : decode prog_10_method_21_code 7 = .ok (.aload_n 0, 1) := by decide +kernel
theorem d_M_clear_8 : decode prog_10_method_21_code 8 = .ok (.iconst 5, 1) := by decide +kernel
theorem d_M_clear_9 : decode prog_10_method_21_code 9 = .ok (.iload_n 1, 1) := by decide +kernel
theorem d_M_clear_10 : decode prog_10_method_21_code 10 = .ok (.iconst 0, 1) := by decide +kernel
theorem d_M_clear_11 : decode prog_10_method_21_code 11 = .ok (.iconst 0, 1) := by decide +kernel
theorem d_M_clear_12 : decode prog_10_method_21_code 12 = .ok (.iconst 0, 1) := by decide +kernel
theorem d_M_clear_13 : decode prog_10_method_21_code 13 = .ok (.iconst 0, 1) := by decide +kernel
theorem d_M_clear_14 : decode prog_10_method_21_code 14 = .ok (.invokevirtual 159, 3) := by decide +kernel
theorem d_M_clear_17 : decode prog_10_method_21_code 17 = .ok (.goto 5, 3) := by decide +kernel
theorem d_M_clear_20 : decode prog_10_method_21_code 20 = .ok (.bipush (-2), 2) := by decide +kernel
theorem d_M_clear_22 : decode prog_10_method_21_code 22 = .ok (.ireturn, 1) := by decide +kernel
theorem d_M_publish_0 : decode prog_10_method_22_code 0 = .ok (.aload_n 0, 1) := by decide +kernel
theorem d_M_publish_1 : decode prog_10_method_22_code 1 = .ok (.getfield 122, 3) := by decide +kernel
theorem d_M_publish_4 : decode prog_10_method_22_code 4 = .ok (.aload_n 0, 1) := by decide +kernel
theorem d_M_publish_5 : decode prog_10_method_22_code 5 = .ok (.getfield 34, 3) := by decide +kernel
theorem d_M_publish_8 : decode prog_10_method_22_code 8 = .ok (.aload_n 0, 1) := by decide +kernel
theorem d_M_publish_9 : decode prog_10_method_22_code 9 = .ok (.getfield 148, 3) := by decide +kernel
theorem d_M_publish_12 : decode prog_10_method_22_code 12 = .ok (.iconst 1, 1) := by decide +kernel
theorem d_M_publish_13 : decode prog_10_method_22_code 13 = .ok (.iadd, 1) := by decide +kernel
theorem d_M_publish_14 : decode prog_10_method_22_code 14 = .ok (.iaload, 1) := by decide +kernel
theorem d_M_publish_15 : decode prog_10_method_22_code 15 = .ok (.if_icmp .ne 5, 3) := by decide +kernel
theorem d_M_publish_18 : decode prog_10_method_22_code 18 = .ok (.iconst 0, 1) := by decide +kernel
theorem d_M_publish_19 : decode prog_10_method_22_code 19 = .ok (.ireturn, 1) := by decide +kernel
theorem d_M_publish_20 : decode prog_10_method_22_code 20 = .ok (.aload_n 0, 1) := by decide +kernel
theorem d_M_publish_21 : decode prog_10_method_22_code 21 = .ok (.dup, 1) := by decide +kernel
theorem d_M_publish_22 : decode prog_10_method_22_code 22 = .ok (.getfield 148, 3) := by decide +kernel
theorem d_M_publish_25 : decode prog_10_method_22_code 25 = .ok (.iconst 1, 1) := by decide +kernel
theorem d_M_publish_26 : decode prog_10_method_22_code 26 = .ok (.iadd, 1) := by decide +kernel
theorem d_M_publish_27 : decode prog_10_method_22_code 27 = .ok (.putfield 148, 3) := by decide +kernel
theorem d_M_publish_30 : decode prog_10_method_22_code 30 = .ok (.aload_n 0, 1) := by decide +kernel
theorem d_M_publish_31 : decode prog_10_method_22_code 31 = .ok (.getfield 34, 3) := by decide +kernel
theorem d_M_publish_34 : decode prog_10_method_22_code 34 = .ok (.aload_n 0, 1) := by decide +kernel
theorem d_M_publish_35 : decode prog_10_method_22_code 35 = .ok (.getfield 148, 3) := by decide +kernel
theorem d_M_publish_38 : decode prog_10_method_22_code 38 = .ok (.iconst 1, 1) := by decide +kernel
theorem d_M_publish_39 : decode prog_10_method_22_code 39 = .ok (.iadd, 1) := by decide +kernel
theorem d_M_publish_40 : decode prog_10_method_22_code 40 = .ok (.aload_n 0, 1) := by decide +kernel
theorem d_M_publish_41 : decode prog_10_method_22_code 41 = .ok (.getfield 122, 3) := by decide +kernel
theorem d_M_publish_44 : decode prog_10_method_22_code 44 = .ok (.iastore, 1) := by decide +kernel
theorem d_M_publish_45 : decode prog_10_method_22_code 45 = .ok (.aload_n 0, 1) := by decide +kernel
theorem d_M_publish_46 : decode prog_10_method_22_code 46 = .ok (.getfield 148, 3) := by decide +kernel
theorem d_M_publish_49 : decode prog_10_method_22_code 49 = .ok (.ireturn, 1) := by decide +kernel
theorem d_M_packetByte_0 : decode prog_10_method_25_code 0 = .ok (.iload_n 1, 1) := by decide +kernel
theorem d_M_packetByte_1 : decode prog_10_method_25_code 1 = .ok (.iconst 1, 1) := by decide +kernel
theorem d_M_packetByte_2 : decode prog_10_method_25_code 2 = .ok (.aload_n 0, 1) := by decide +kernel
theorem d_M_packetByte_3 : decode prog_10_method_25_code 3 = .ok (.getfield 148, 3) := by decide +kernel
theorem d_M_packetByte_6 : decode prog_10_method_25_code 6 = .ok (.invokestatic 101, 3) := by decide +kernel
theorem d_M_packetByte_9 : decode prog_10_method_25_code 9 = .ok (.ifCond .ne 5, 3) := by decide +kernel
theorem d_M_packetByte_12 : decode prog_10_method_25_code 12 = .ok (.iconst (-1), 1) := by decide +kernel
theorem d_M_packetByte_13 : decode prog_10_method_25_code 13 = .ok (.ireturn, 1) := by decide +kernel
theorem d_M_packetByte_14 : decode prog_10_method_25_code 14 = .ok (.aload_n 0, 1) := by decide +kernel
theorem d_M_packetByte_15 : decode prog_10_method_25_code 15 = .ok (.getfield 34, 3) := by decide +kernel
theorem d_M_packetByte_18 : decode prog_10_method_25_code 18 = .ok (.iload_n 1, 1) := by decide +kernel
theorem d_M_packetByte_19 : decode prog_10_method_25_code 19 = .ok (.iconst 1, 1) := by decide +kernel
theorem d_M_packetByte_20 : decode prog_10_method_25_code 20 = .ok (.iadd, 1) := by decide +kernel
theorem d_M_packetByte_21 : decode prog_10_method_25_code 21 = .ok (.iaload, 1) := by decide +kernel
theorem d_M_packetByte_22 : decode prog_10_method_25_code 22 = .ok (.aload_n 0, 1) := by decide +kernel
theorem d_M_packetByte_23 : decode prog_10_method_25_code 23 = .ok (.getfield 34, 3) := by decide +kernel
theorem d_M_packetByte_26 : decode prog_10_method_25_code 26 = .ok (.iload_n 1, 1) := by decide +kernel
theorem d_M_packetByte_27 : decode prog_10_method_25_code 27 = .ok (.iaload, 1) := by decide +kernel
theorem d_M_packetByte_28 : decode prog_10_method_25_code 28 = .ok (.isub, 1) := by decide +kernel
theorem d_M_packetByte_29 : decode prog_10_method_25_code 29 = .ok (.istore_n 3, 1) := by decide +kernel
theorem d_M_packetByte_30 : decode prog_10_method_25_code 30 = .ok (.iload_n 2, 1) := by decide +kernel
theorem d_M_packetByte_31 : decode prog_10_method_25_code 31 = .ok (.ifCond .lt 13, 3) := by decide +kernel
theorem d_M_packetByte_34 : decode prog_10_method_25_code 34 = .ok (.iload_n 2, 1) := by decide +kernel
theorem d_M_packetByte_35 : decode prog_10_method_25_code 35 = .ok (.iconst 5, 1) := by decide +kernel
theorem d_M_packetByte_36 : decode prog_10_method_25_code 36 = .ok (.bipush 19, 2) := by decide +kernel
theorem d_M_packetByte_38 : decode prog_10_method_25_code 38 = .ok (.iload_n 3, 1) := by decide +kernel
theorem d_M_packetByte_39 : decode prog_10_method_25_code 39 = .ok (.imul, 1) := by decide +kernel
theorem d_M_packetByte_40 : decode prog_10_method_25_code 40 = .ok (.iadd, 1) := by decide +kernel
theorem d_M_packetByte_41 : decode prog_10_method_25_code 41 = .ok (.if_icmp .lt 5, 3) := by decide +kernel
theorem d_M_packetByte_44 : decode prog_10_method_25_code 44 = .ok (.iconst (-1), 1) := by decide +kernel
theorem d_M_packetByte_45 : decode prog_10_method_25_code 45 = .ok (.ireturn, 1) := by decide +kernel
theorem d_M_packetByte_46 : decode prog_10_method_25_code 46 = .ok (.iload_n 2, 1) := by decide +kernel
theorem d_M_packetByte_47 : decode prog_10_method_25_code 47 = .ok (.iconst 4, 1) := by decide +kernel
theorem d_M_packetByte_48 : decode prog_10_method_25_code 48 = .ok (.if_icmp .ge 9, 3) := by decide +kernel
theorem d_M_packetByte_51 : decode prog_10_method_25_code 51 = .ok (.iload_n 1, 1) := by decide +kernel
theorem d_M_packetByte_52 : decode prog_10_method_25_code 52 = .ok (.iload_n 2, 1) := by decide +kernel
theorem d_M_packetByte_53 : decode prog_10_method_25_code 53 = .ok (.invokestatic 163, 3) := by decide +kernel
theorem d_M_packetByte_56 : decode prog_10_method_25_code 56 = .ok (.ireturn, 1) := by decide +kernel
theorem d_M_packetByte_57 : decode prog_10_method_25_code 57 = .ok (.iload_n 2, 1) := by decide +kernel
theorem d_M_packetByte_58 : decode prog_10_method_25_code 58 = .ok (.iconst 4, 1) := by decide +kernel
theorem d_M_packetByte_59 : decode prog_10_method_25_code 59 = .ok (.if_icmp .ne 7, 3) := by decide +kernel
theorem d_M_packetByte_62 : decode prog_10_method_25_code 62 = .ok (.iload_n 3, 1) := by decide +kernel
theorem d_M_packetByte_63 : decode prog_10_method_25_code 63 = .ok (.goto 26, 3) := by decide +kernel
theorem d_M_packetByte_66 : decode prog_10_method_25_code 66 = .ok (.aload_n 0, 1) := by decide +kernel
theorem d_M_packetByte_67 : decode prog_10_method_25_code 67 = .ok (.aload_n 0, 1) := by decide +kernel
theorem d_M_packetByte_68 : decode prog_10_method_25_code 68 = .ok (.getfield 34, 3) := by decide +kernel
theorem d_M_packetByte_71 : decode prog_10_method_25_code 71 = .ok (.iload_n 1, 1) := by decide +kernel
theorem d_M_packetByte_72 : decode prog_10_method_25_code 72 = .ok (.iaload, 1) := by decide +kernel
theorem d_M_packetByte_73 : decode prog_10_method_25_code 73 = .ok (.iload_n 2, 1) := by decide +kernel
theorem d_M_packetByte_74 : decode prog_10_method_25_code 74 = .ok (.iconst 5, 1) := by decide +kernel
theorem d_M_packetByte_75 : decode prog_10_method_25_code 75 = .ok (.isub, 1) := by decide +kernel
theorem d_M_packetByte_76 : decode prog_10_method_25_code 76 = .ok (.bipush 19, 2) := by decide +kernel
theorem d_M_packetByte_78 : decode prog_10_method_25_code 78 = .ok (.idiv, 1) := by decide +kernel
theorem d_M_packetByte_79 : decode prog_10_method_25_code 79 = .ok (.iadd, 1) := by decide +kernel
theorem d_M_packetByte_80 : decode prog_10_method_25_code 80 = .ok (.iload_n 2, 1) := by decide +kernel
theorem d_M_packetByte_81 : decode prog_10_method_25_code 81 = .ok (.iconst 5, 1) := by decide +kernel
theorem d_M_packetByte_82 : decode prog_10_method_25_code 82 = .ok (.isub, 1) := by decide +kernel
theorem d_M_packetByte_83 : decode prog_10_method_25_code 83 = .ok (.bipush 19, 2) := by decide +kernel
theorem d_M_packetByte_85 : decode prog_10_method_25_code 85 = .ok (.irem, 1) := by decide +kernel
theorem d_M_packetByte_86 : decode prog_10_method_25_code 86 = .ok (.invokevirtual 166, 3) := by decide +kernel
theorem d_M_packetByte_89 : decode prog_10_method_25_code 89 = .ok (.ireturn, 1) := by decide +kernel
theorem d_M_byteOf_0 : decode prog_10_method_23_code 0 = .ok (.iload_n 0, 1) := by decide +kernel
theorem d_M_byteOf_1 : decode prog_10_method_23_code 1 = .ok (.bipush 24, 2) := by decide +kernel
theorem d_M_byteOf_3 : decode prog_10_method_23_code 3 = .ok (.bipush 8, 2) := by decide +kernel
theorem d_M_byteOf_5 : decode prog_10_method_23_code 5 = .ok (.iload_n 1, 1) := by decide +kernel
theorem d_M_byteOf_6 : decode prog_10_method_23_code 6 = .ok (.imul, 1) := by decide +kernel
theorem d_M_byteOf_7 : decode prog_10_method_23_code 7 = .ok (.isub, 1) := by decide +kernel
theorem d_M_byteOf_8 : decode prog_10_method_23_code 8 = .ok (.iushr, 1) := by decide +kernel
theorem d_M_byteOf_9 : decode prog_10_method_23_code 9 = .ok (.sipush 255, 3) := by decide +kernel
theorem d_M_byteOf_12 : decode prog_10_method_23_code 12 = .ok (.iand, 1) := by decide +kernel
theorem d_M_byteOf_13 : decode prog_10_method_23_code 13 = .ok (.ireturn, 1) := by decide +kernel
theorem d_M_eventByte_0 : decode prog_10_method_24_code 0 = .ok (.iload_n 2, 1) := by decide +kernel
theorem d_M_eventByte_1 : decode prog_10_method_24_code 1 = .ok (.ifCond .ne 10, 3) := by decide +kernel
theorem d_M_eventByte_4 : decode prog_10_method_24_code 4 = .ok (.aload_n 0, 1) := by decide +kernel
theorem d_M_eventByte_5 : decode prog_10_method_24_code 5 = .ok (.getfield 7, 3) := by decide +kernel
theorem d_M_eventByte_8 : decode prog_10_method_24_code 8 = .ok (.iload_n 1, 1) := by decide +kernel
theorem d_M_eventByte_9 : decode prog_10_method_24_code 9 = .ok (.iaload, 1) := by decide +kernel
theorem d_M_eventByte_10 : decode prog_10_method_24_code 10 = .ok (.ireturn, 1) := by decide +kernel
theorem d_M_eventByte_11 : decode prog_10_method_24_code 11 = .ok (.iload_n 2, 1) := by decide +kernel
theorem d_M_eventByte_12 : decode prog_10_method_24_code 12 = .ok (.iconst 1, 1) := by decide +kernel
theorem d_M_eventByte_13 : decode prog_10_method_24_code 13 = .ok (.if_icmp .ne 10, 3) := by decide +kernel
theorem d_M_eventByte_16 : decode prog_10_method_24_code 16 = .ok (.aload_n 0, 1) := by decide +kernel
theorem d_M_eventByte_17 : decode prog_10_method_24_code 17 = .ok (.getfield 13, 3) := by decide +kernel
theorem d_M_eventByte_20 : decode prog_10_method_24_code 20 = .ok (.iload_n 1, 1) := by decide +kernel
theorem d_M_eventByte_21 : decode prog_10_method_24_code 21 = .ok (.iaload, 1) := by decide +kernel
theorem d_M_eventByte_22 : decode prog_10_method_24_code 22 = .ok (.ireturn, 1) := by decide +kernel
theorem d_M_eventByte_23 : decode prog_10_method_24_code 23 = .ok (.iload_n 2, 1) := by decide +kernel
theorem d_M_eventByte_24 : decode prog_10_method_24_code 24 = .ok (.bipush 6, 2) := by decide +kernel
theorem d_M_eventByte_26 : decode prog_10_method_24_code 26 = .ok (.if_icmp .ge 16, 3) := by decide +kernel
theorem d_M_eventByte_29 : decode prog_10_method_24_code 29 = .ok (.aload_n 0, 1) := by decide +kernel
theorem d_M_eventByte_30 : decode prog_10_method_24_code 30 = .ok (.getfield 16, 3) := by decide +kernel
theorem d_M_eventByte_33 : decode prog_10_method_24_code 33 = .ok (.iload_n 1, 1) := by decide +kernel
theorem d_M_eventByte_34 : decode prog_10_method_24_code 34 = .ok (.iaload, 1) := by decide +kernel
theorem d_M_eventByte_35 : decode prog_10_method_24_code 35 = .ok (.iload_n 2, 1) := by decide +kernel
theorem d_M_eventByte_36 : decode prog_10_method_24_code 36 = .ok (.iconst 2, 1) := by decide +kernel
theorem d_M_eventByte_37 : decode prog_10_method_24_code 37 = .ok (.isub, 1) := by decide +kernel
theorem d_M_eventByte_38 : decode prog_10_method_24_code 38 = .ok (.invokestatic 163, 3) := by decide +kernel
theorem d_M_eventByte_41 : decode prog_10_method_24_code 41 = .ok (.ireturn, 1) := by decide +kernel
theorem d_M_eventByte_42 : decode prog_10_method_24_code 42 = .ok (.iload_n 2, 1) := by decide +kernel
theorem d_M_eventByte_43 : decode prog_10_method_24_code 43 = .ok (.bipush 10, 2) := by decide +kernel
theorem d_M_eventByte_45 : decode prog_10_method_24_code 45 = .ok (.if_icmp .ge 17, 3) := by decide +kernel
theorem d_M_eventByte_48 : decode prog_10_method_24_code 48 = .ok (.aload_n 0, 1) := by decide +kernel
theorem d_M_eventByte_49 : decode prog_10_method_24_code 49 = .ok (.getfield 19, 3) := by decide +kernel
theorem d_M_eventByte_52 : decode prog_10_method_24_code 52 = .ok (.iload_n 1, 1) := by decide +kernel
theorem d_M_eventByte_53 : decode prog_10_method_24_code 53 = .ok (.iaload, 1) := by decide +kernel
theorem d_M_eventByte_54 : decode prog_10_method_24_code 54 = .ok (.iload_n 2, 1) := by decide +kernel
theorem d_M_eventByte_55 : decode prog_10_method_24_code 55 = .ok (.bipush 6, 2) := by decide +kernel
theorem d_M_eventByte_57 : decode prog_10_method_24_code 57 = .ok (.isub, 1) := by decide +kernel
theorem d_M_eventByte_58 : decode prog_10_method_24_code 58 = .ok (.invokestatic 163, 3) := by decide +kernel
theorem d_M_eventByte_61 : decode prog_10_method_24_code 61 = .ok (.ireturn, 1) := by decide +kernel
theorem d_M_eventByte_62 : decode prog_10_method_24_code 62 = .ok (.iload_n 2, 1) := by decide +kernel
theorem d_M_eventByte_63 : decode prog_10_method_24_code 63 = .ok (.bipush 10, 2) := by decide +kernel
theorem d_M_eventByte_65 : decode prog_10_method_24_code 65 = .ok (.if_icmp .ne 10, 3) := by decide +kernel
theorem d_M_eventByte_68 : decode prog_10_method_24_code 68 = .ok (.aload_n 0, 1) := by decide +kernel
theorem d_M_eventByte_69 : decode prog_10_method_24_code 69 = .ok (.getfield 22, 3) := by decide +kernel
theorem d_M_eventByte_72 : decode prog_10_method_24_code 72 = .ok (.iload_n 1, 1) := by decide +kernel
theorem d_M_eventByte_73 : decode prog_10_method_24_code 73 = .ok (.iaload, 1) := by decide +kernel
theorem d_M_eventByte_74 : decode prog_10_method_24_code 74 = .ok (.ireturn, 1) := by decide +kernel
theorem d_M_eventByte_75 : decode prog_10_method_24_code 75 = .ok (.iload_n 2, 1) := by decide +kernel
theorem d_M_eventByte_76 : decode prog_10_method_24_code 76 = .ok (.bipush 15, 2) := by decide +kernel
theorem d_M_eventByte_78 : decode prog_10_method_24_code 78 = .ok (.if_icmp .ge 19, 3) := by decide +kernel
theorem d_M_eventByte_81 : decode prog_10_method_24_code 81 = .ok (.aload_n 0, 1) := by decide +kernel
theorem d_M_eventByte_82 : decode prog_10_method_24_code 82 = .ok (.getfield 25, 3) := by decide +kernel
theorem d_M_eventByte_85 : decode prog_10_method_24_code 85 = .ok (.iload_n 1, 1) := by decide +kernel
theorem d_M_eventByte_86 : decode prog_10_method_24_code 86 = .ok (.iaload, 1) := by decide +kernel
theorem d_M_eventByte_87 : decode prog_10_method_24_code 87 = .ok (.iload_n 2, 1) := by decide +kernel
theorem d_M_eventByte_88 : decode prog_10_method_24_code 88 = .ok (.bipush 11, 2) := by decide +kernel
theorem d_M_eventByte_90 : decode prog_10_method_24_code 90 = .ok (.isub, 1) := by decide +kernel
theorem d_M_eventByte_91 : decode prog_10_method_24_code 91 = .ok (.invokestatic 163, 3) := by decide +kernel
theorem d_M_eventByte_94 : decode prog_10_method_24_code 94 = .ok (.goto 16, 3) := by decide +kernel
theorem d_M_eventByte_97 : decode prog_10_method_24_code 97 = .ok (.aload_n 0, 1) := by decide +kernel
theorem d_M_eventByte_98 : decode prog_10_method_24_code 98 = .ok (.getfield 28, 3) := by decide +kernel
theorem d_M_eventByte_101 : decode prog_10_method_24_code 101 = .ok (.iload_n 1, 1) := by decide +kernel
theorem d_M_eventByte_102 : decode prog_10_method_24_code 102 = .ok (.iaload, 1) := by decide +kernel
theorem d_M_eventByte_103 : decode prog_10_method_24_code 103 = .ok (.iload_n 2, 1) := by decide +kernel
theorem d_M_eventByte_104 : decode prog_10_method_24_code 104 = .ok (.bipush 15, 2) := by decide +kernel
theorem d_M_eventByte_106 : decode prog_10_method_24_code 106 = .ok (.isub, 1) := by decide +kernel
theorem d_M_eventByte_107 : decode prog_10_method_24_code 107 = .ok (.invokestatic 163, 3) := by decide +kernel
theorem d_M_eventByte_110 : decode prog_10_method_24_code 110 = .ok (.ireturn, 1) := by decide +kernel
theorem d_M_line_0 : decode prog_10_method_33_code 0 = .ok (.iload_n 1, 1) := by decide +kernel
theorem d_M_line_1 : decode prog_10_method_33_code 1 = .ok (.iconst 0, 1) := by decide +kernel
theorem d_M_line_2 : decode prog_10_method_33_code 2 = .ok (.iconst 1, 1) := by decide +kernel
theorem d_M_line_3 : decode prog_10_method_33_code 3 = .ok (.invokestatic 101, 3) := by decide +kernel
theorem d_M_line_6 : decode prog_10_method_33_code 6 = .ok (.ifCond .eq 31, 3) := by decide +kernel
theorem d_M_line_9 : decode prog_10_method_33_code 9 = .ok (.iload_n 2, 1) := by decide +kernel
theorem d_M_line_10 : decode prog_10_method_33_code 10 = .ok (.iconst 1, 1) := by decide +kernel
theorem d_M_line_11 : decode prog_10_method_33_code 11 = .ok (.aload_n 0, 1) := by decide +kernel
theorem d_M_line_12 : decode prog_10_method_33_code 12 = .ok (.getfield 148, 3) := by decide +kernel
theorem d_M_line_15 : decode prog_10_method_33_code 15 = .ok (.invokestatic 101, 3) := by decide +kernel
theorem d_M_line_18 : decode prog_10_method_33_code 18 = .ok (.ifCond .eq 19, 3) := by decide +kernel
theorem d_M_line_21 : decode prog_10_method_33_code 21 = .ok (.iload_n 3, 1) := by decide +kernel
theorem d_M_line_22 : decode prog_10_method_33_code 22 = .ok (.invokestatic 192, 3) := by decide +kernel
theorem d_M_line_25 : decode prog_10_method_33_code 25 = .ok (.ifCond .eq 12, 3) := by decide +kernel
theorem d_M_line_28 : decode prog_10_method_33_code 28 = .ok (.aload_n 0, 1) := by decide +kernel
theorem d_M_line_29 : decode prog_10_method_33_code 29 = .ok (.iload_n 3, 1) := by decide +kernel
theorem d_M_line_30 : decode prog_10_method_33_code 30 = .ok (.iload_n 2, 1) := by decide +kernel
theorem d_M_line_31 : decode prog_10_method_33_code 31 = .ok (.invokevirtual 195, 3) := by decide +kernel
theorem d_M_line_34 : decode prog_10_method_33_code 34 = .ok (.goto 5, 3) := by decide +kernel
theorem d_M_line_37 : decode prog_10_method_33_code 37 = .ok (.bipush (-2), 2) := by decide +kernel
theorem d_M_line_39 : decode prog_10_method_33_code 39 = .ok (.ireturn, 1) := by decide +kernel
theorem d_M_isReceiver_0 : decode prog_10_method_5_code 0 = .ok (.iload_n 0, 1) := by decide +kernel
theorem d_M_isReceiver_1 : decode prog_10_method_5_code 1 = .ok (.iconst 0, 1) := by decide +kernel
theorem d_M_isReceiver_2 : decode prog_10_method_5_code 2 = .ok (.iconst 1, 1) := by decide +kernel
theorem d_M_isReceiver_3 : decode prog_10_method_5_code 3 = .ok (.invokestatic 101, 3) := by decide +kernel
theorem d_M_isReceiver_6 : decode prog_10_method_5_code 6 = .ok (.ireturn, 1) := by decide +kernel
theorem d_M_hear_0 : decode prog_10_method_32_code 0 = .ok (.iload_n 2, 1) := by decide +kernel
theorem d_M_hear_1 : decode prog_10_method_32_code 1 = .ok (.aload_n 0, 1) := by decide +kernel
theorem d_M_hear_2 : decode prog_10_method_32_code 2 = .ok (.getfield 71, 3) := by decide +kernel
theorem d_M_hear_5 : decode prog_10_method_32_code 5 = .ok (.iload_n 1, 1) := by decide +kernel
theorem d_M_hear_6 : decode prog_10_method_32_code 6 = .ok (.iaload, 1) := by decide +kernel
theorem d_M_hear_7 : decode prog_10_method_32_code 7 = .ok (.if_icmp .le 10, 3) := by decide +kernel
theorem d_M_hear_10 : decode prog_10_method_32_code 10 = .ok (.aload_n 0, 1) := by decide +kernel
theorem d_M_hear_11 : decode prog_10_method_32_code 11 = .ok (.getfield 71, 3) := by decide +kernel
theorem d_M_hear_14 : decode prog_10_method_32_code 14 = .ok (.iload_n 1, 1) := by decide +kernel
theorem d_M_hear_15 : decode prog_10_method_32_code 15 = .ok (.iload_n 2, 1) := by decide +kernel
theorem d_M_hear_16 : decode prog_10_method_32_code 16 = .ok (.iastore, 1) := by decide +kernel
theorem d_M_hear_17 : decode prog_10_method_32_code 17 = .ok (.iload_n 2, 1) := by decide +kernel
theorem d_M_hear_18 : decode prog_10_method_32_code 18 = .ok (.aload_n 0, 1) := by decide +kernel
theorem d_M_hear_19 : decode prog_10_method_32_code 19 = .ok (.getfield 68, 3) := by decide +kernel
theorem d_M_hear_22 : decode prog_10_method_32_code 22 = .ok (.iload_n 1, 1) := by decide +kernel
theorem d_M_hear_23 : decode prog_10_method_32_code 23 = .ok (.iaload, 1) := by decide +kernel
theorem d_M_hear_24 : decode prog_10_method_32_code 24 = .ok (.if_icmp .ge 5, 3) := by decide +kernel
theorem d_M_hear_27 : decode prog_10_method_32_code 27 = .ok (.iconst 0, 1) := by decide +kernel
theorem d_M_hear_28 : decode prog_10_method_32_code 28 = .ok (.ireturn, 1) := by decide +kernel
theorem d_M_hear_29 : decode prog_10_method_32_code 29 = .ok (.iload_n 2, 1) := by decide +kernel
theorem d_M_hear_30 : decode prog_10_method_32_code 30 = .ok (.aload_n 0, 1) := by decide +kernel
theorem d_M_hear_31 : decode prog_10_method_32_code 31 = .ok (.getfield 68, 3) := by decide +kernel
theorem d_M_hear_34 : decode prog_10_method_32_code 34 = .ok (.iload_n 1, 1) := by decide +kernel
theorem d_M_hear_35 : decode prog_10_method_32_code 35 = .ok (.iaload, 1) := by decide +kernel
theorem d_M_hear_36 : decode prog_10_method_32_code 36 = .ok (.bipush 6, 2) := by decide +kernel
theorem d_M_hear_38 : decode prog_10_method_32_code 38 = .ok (.iadd, 1) := by decide +kernel
theorem d_M_hear_39 : decode prog_10_method_32_code 39 = .ok (.if_icmp .le 5, 3) := by decide +kernel
theorem d_M_hear_42 : decode prog_10_method_32_code 42 = .ok (.iconst 3, 1) := by decide +kernel
theorem d_M_hear_43 : decode prog_10_method_32_code 43 = .ok (.ireturn, 1) := by decide +kernel
theorem d_M_hear_44 : decode prog_10_method_32_code 44 = .ok (.iload_n 2, 1) := by decide +kernel
theorem d_M_hear_45 : decode prog_10_method_32_code 45 = .ok (.aload_n 0, 1) := by decide +kernel
theorem d_M_hear_46 : decode prog_10_method_32_code 46 = .ok (.getfield 68, 3) := by decide +kernel
theorem d_M_hear_49 : decode prog_10_method_32_code 49 = .ok (.iload_n 1, 1) := by decide +kernel
theorem d_M_hear_50 : decode prog_10_method_32_code 50 = .ok (.iaload, 1) := by decide +kernel
theorem d_M_hear_51 : decode prog_10_method_32_code 51 = .ok (.if_icmp .le 18, 3) := by decide +kernel
theorem d_M_hear_54 : decode prog_10_method_32_code 54 = .ok (.aload_n 0, 1) := by decide +kernel
theorem d_M_hear_55 : decode prog_10_method_32_code 55 = .ok (.getfield 74, 3) := by decide +kernel
theorem d_M_hear_58 : decode prog_10_method_32_code 58 = .ok (.sipush 402, 3) := by decide +kernel
theorem d_M_hear_61 : decode prog_10_method_32_code 61 = .ok (.iload_n 1, 1) := by decide +kernel
theorem d_M_hear_62 : decode prog_10_method_32_code 62 = .ok (.imul, 1) := by decide +kernel
theorem d_M_hear_63 : decode prog_10_method_32_code 63 = .ok (.iload_n 2, 1) := by decide +kernel
theorem d_M_hear_64 : decode prog_10_method_32_code 64 = .ok (.iadd, 1) := by decide +kernel
theorem d_M_hear_65 : decode prog_10_method_32_code 65 = .ok (.iconst 1, 1) := by decide +kernel
theorem d_M_hear_66 : decode prog_10_method_32_code 66 = .ok (.bastore, 1) := by decide +kernel
theorem d_M_hear_67 : decode prog_10_method_32_code 67 = .ok (.iconst 2, 1) := by decide +kernel
theorem d_M_hear_68 : decode prog_10_method_32_code 68 = .ok (.ireturn, 1) := by decide +kernel
theorem d_M_hear_69 : decode prog_10_method_32_code 69 = .ok (.aload_n 0, 1) := by decide +kernel
theorem d_M_hear_70 : decode prog_10_method_32_code 70 = .ok (.iload_n 1, 1) := by decide +kernel
theorem d_M_hear_71 : decode prog_10_method_32_code 71 = .ok (.invokevirtual 186, 3) := by decide +kernel
theorem d_M_hear_74 : decode prog_10_method_32_code 74 = .ok (.aload_n 0, 1) := by decide +kernel
theorem d_M_hear_75 : decode prog_10_method_32_code 75 = .ok (.iload_n 1, 1) := by decide +kernel
theorem d_M_hear_76 : decode prog_10_method_32_code 76 = .ok (.invokevirtual 189, 3) := by decide +kernel
theorem d_M_hear_79 : decode prog_10_method_32_code 79 = .ok (.iconst 1, 1) := by decide +kernel
theorem d_M_hear_80 : decode prog_10_method_32_code 80 = .ok (.ireturn, 1) := by decide +kernel
theorem d_M_pass_0 : decode prog_10_method_30_code 0 = .ok (.aload_n 0, 1) := by decide +kernel
theorem d_M_pass_1 : decode prog_10_method_30_code 1 = .ok (.getfield 68, 3) := by decide +kernel
theorem d_M_pass_4 : decode prog_10_method_30_code 4 = .ok (.iload_n 1, 1) := by decide +kernel
theorem d_M_pass_5 : decode prog_10_method_30_code 5 = .ok (.iaload, 1) := by decide +kernel
theorem d_M_pass_6 : decode prog_10_method_30_code 6 = .ok (.istore_n 2, 1) := by decide +kernel
theorem d_M_pass_7 : decode prog_10_method_30_code 7 = .ok (.aload_n 0, 1) := by decide +kernel
theorem d_M_pass_8 : decode prog_10_method_30_code 8 = .ok (.getfield 74, 3) := by decide +kernel
theorem d_M_pass_11 : decode prog_10_method_30_code 11 = .ok (.sipush 402, 3) := by decide +kernel
theorem d_M_pass_14 : decode prog_10_method_30_code 14 = .ok (.iload_n 1, 1) := by decide +kernel
theorem d_M_pass_15 : decode prog_10_method_30_code 15 = .ok (.imul, 1) := by decide +kernel
theorem d_M_pass_16 : decode prog_10_method_30_code 16 = .ok (.iload_n 2, 1) := by decide +kernel
theorem d_M_pass_17 : decode prog_10_method_30_code 17 = .ok (.iadd, 1) := by decide +kernel
theorem d_M_pass_18 : decode prog_10_method_30_code 18 = .ok (.iconst 0, 1) := by decide +kernel
theorem d_M_pass_19 : decode prog_10_method_30_code 19 = .ok (.bastore, 1) := by decide +kernel
theorem d_M_pass_20 : decode prog_10_method_30_code 20 = .ok (.aload_n 0, 1) := by decide +kernel
theorem d_M_pass_21 : decode prog_10_method_30_code 21 = .ok (.getfield 34, 3) := by decide +kernel
theorem d_M_pass_24 : decode prog_10_method_30_code 24 = .ok (.iload_n 2, 1) := by decide +kernel
theorem d_M_pass_25 : decode prog_10_method_30_code 25 = .ok (.iaload, 1) := by decide +kernel
theorem d_M_pass_26 : decode prog_10_method_30_code 26 = .ok (.istore_n 3, 1) := by decide +kernel
theorem d_M_pass_27 : decode prog_10_method_30_code 27 = .ok (.iload_n 3, 1) := by decide +kernel
theorem d_M_pass_28 : decode prog_10_method_30_code 28 = .ok (.aload_n 0, 1) := by decide +kernel
theorem d_M_pass_29 : decode prog_10_method_30_code 29 = .ok (.getfield 34, 3) := by decide +kernel
theorem d_M_pass_32 : decode prog_10_method_30_code 32 = .ok (.iload_n 2, 1) := by decide +kernel
theorem d_M_pass_33 : decode prog_10_method_30_code 33 = .ok (.iconst 1, 1) := by decide +kernel
theorem d_M_pass_34 : decode prog_10_method_30_code 34 = .ok (.iadd, 1) := by decide +kernel
theorem d_M_pass_35 : decode prog_10_method_30_code 35 = .ok (.iaload, 1) := by decide +kernel
theorem d_M_pass_36 : decode prog_10_method_30_code 36 = .ok (.if_icmp .ge 15, 3) := by decide +kernel
theorem d_M_pass_39 : decode prog_10_method_30_code 39 = .ok (.aload_n 0, 1) := by decide +kernel
theorem d_M_pass_40 : decode prog_10_method_30_code 40 = .ok (.iload_n 1, 1) := by decide +kernel
theorem d_M_pass_41 : decode prog_10_method_30_code 41 = .ok (.iload_n 3, 1) := by decide +kernel
theorem d_M_pass_42 : decode prog_10_method_30_code 42 = .ok (.invokevirtual 183, 3) := by decide +kernel
theorem d_M_pass_45 : decode prog_10_method_30_code 45 = .ok (.iinc 3 1, 3) := by decide +kernel
theorem d_M_pass_48 : decode prog_10_method_30_code 48 = .ok (.goto (-21), 3) := by decide +kernel
theorem d_M_pass_51 : decode prog_10_method_30_code 51 = .ok (.aload_n 0, 1) := by decide +kernel
theorem d_M_pass_52 : decode prog_10_method_30_code 52 = .ok (.getfield 68, 3) := by decide +kernel
theorem d_M_pass_55 : decode prog_10_method_30_code 55 = .ok (.iload_n 1, 1) := by decide +kernel
theorem d_M_pass_56 : decode prog_10_method_30_code 56 = .ok (.dup2, 1) := by decide +kernel
theorem d_M_pass_57 : decode prog_10_method_30_code 57 = .ok (.iaload, 1) := by decide +kernel
theorem d_M_pass_58 : decode prog_10_method_30_code 58 = .ok (.iconst 1, 1) := by decide +kernel
theorem d_M_pass_59 : decode prog_10_method_30_code 59 = .ok (.iadd, 1) := by decide +kernel
theorem d_M_pass_60 : decode prog_10_method_30_code 60 = .ok (.iastore, 1) := by decide +kernel
theorem d_M_pass_61 : decode prog_10_method_30_code 61 = .ok (.return_, 1) := by decide +kernel
theorem d_M_event_0 : decode prog_10_method_29_code 0 = .ok (.aload_n 0, 1) := by decide +kernel
theorem d_M_event_1 : decode prog_10_method_29_code 1 = .ok (.getfield 13, 3) := by decide +kernel
theorem d_M_event_4 : decode prog_10_method_29_code 4 = .ok (.iload_n 2, 1) := by decide +kernel
theorem d_M_event_5 : decode prog_10_method_29_code 5 = .ok (.iaload, 1) := by decide +kernel
theorem d_M_event_6 : decode prog_10_method_29_code 6 = .ok (.istore_n 3, 1) := by decide +kernel
theorem d_M_event_7 : decode prog_10_method_29_code 7 = .ok (.iconst 4, 1) := by decide +kernel
theorem d_M_event_8 : decode prog_10_method_29_code 8 = .ok (.iload_n 1, 1) := by decide +kernel
theorem d_M_event_9 : decode prog_10_method_29_code 9 = .ok (.imul, 1) := by decide +kernel
theorem d_M_event_10 : decode prog_10_method_29_code 10 = .ok (.iload_n 3, 1) := by decide +kernel
theorem d_M_event_11 : decode prog_10_method_29_code 11 = .ok (.iadd, 1) := by decide +kernel
theorem d_M_event_12 : decode prog_10_method_29_code 12 = .ok (.istore 4, 2) := by decide +kernel
theorem d_M_event_14 : decode prog_10_method_29_code 14 = .ok (.aload_n 0, 1) := by decide +kernel
theorem d_M_event_15 : decode prog_10_method_29_code 15 = .ok (.getfield 16, 3) := by decide +kernel
theorem d_M_event_18 : decode prog_10_method_29_code 18 = .ok (.iload_n 2, 1) := by decide +kernel
theorem d_M_event_19 : decode prog_10_method_29_code 19 = .ok (.iaload, 1) := by decide +kernel
theorem d_M_event_20 : decode prog_10_method_29_code 20 = .ok (.istore 5, 2) := by decide +kernel
theorem d_M_event_22 : decode prog_10_method_29_code 22 = .ok (.iload 5, 2) := by decide +kernel
theorem d_M_event_24 : decode prog_10_method_29_code 24 = .ok (.aload_n 0, 1) := by decide +kernel
theorem d_M_event_25 : decode prog_10_method_29_code 25 = .ok (.getfield 55, 3) := by decide +kernel
theorem d_M_event_28 : decode prog_10_method_29_code 28 = .ok (.iload 4, 2) := by decide +kernel
theorem d_M_event_30 : decode prog_10_method_29_code 30 = .ok (.iaload, 1) := by decide +kernel
theorem d_M_event_31 : decode prog_10_method_29_code 31 = .ok (.iconst 1, 1) := by decide +kernel
theorem d_M_event_32 : decode prog_10_method_29_code 32 = .ok (.iadd, 1) := by decide +kernel
theorem d_M_event_33 : decode prog_10_method_29_code 33 = .ok (.if_icmp .ne 20, 3) := by decide +kernel
theorem d_M_event_36 : decode prog_10_method_29_code 36 = .ok (.aload_n 0, 1) := by decide +kernel
theorem d_M_event_37 : decode prog_10_method_29_code 37 = .ok (.iload_n 1, 1) := by decide +kernel
theorem d_M_event_38 : decode prog_10_method_29_code 38 = .ok (.iload_n 3, 1) := by decide +kernel
theorem d_M_event_39 : decode prog_10_method_29_code 39 = .ok (.iload 5, 2) := by decide +kernel
theorem d_M_event_41 : decode prog_10_method_29_code 41 = .ok (.invokevirtual 176, 3) := by decide +kernel
theorem d_M_event_44 : decode prog_10_method_29_code 44 = .ok (.aload_n 0, 1) := by decide +kernel
theorem d_M_event_45 : decode prog_10_method_29_code 45 = .ok (.iload_n 1, 1) := by decide +kernel
theorem d_M_event_46 : decode prog_10_method_29_code 46 = .ok (.iload_n 3, 1) := by decide +kernel
theorem d_M_event_47 : decode prog_10_method_29_code 47 = .ok (.invokevirtual 180, 3) := by decide +kernel
theorem d_M_event_50 : decode prog_10_method_29_code 50 = .ok (.goto 70, 3) := by decide +kernel
theorem d_M_event_53 : decode prog_10_method_29_code 53 = .ok (.iload 5, 2) := by decide +kernel
theorem d_M_event_55 : decode prog_10_method_29_code 55 = .ok (.aload_n 0, 1) := by decide +kernel
theorem d_M_event_56 : decode prog_10_method_29_code 56 = .ok (.getfield 55, 3) := by decide +kernel
theorem d_M_event_59 : decode prog_10_method_29_code 59 = .ok (.iload 4, 2) := by decide +kernel
theorem d_M_event_61 : decode prog_10_method_29_code 61 = .ok (.iaload, 1) := by decide +kernel
theorem d_M_event_62 : decode prog_10_method_29_code 62 = .ok (.if_icmp .le 58, 3) := by decide +kernel
theorem d_M_event_65 : decode prog_10_method_29_code 65 = .ok (.aload_n 0, 1) := by decide +kernel
theorem d_M_event_66 : decode prog_10_method_29_code 66 = .ok (.getfield 61, 3) := by decide +kernel
theorem d_M_event_69 : decode prog_10_method_29_code 69 = .ok (.sipush 401, 3) := by decide +kernel
theorem d_M_event_72 : decode prog_10_method_29_code 72 = .ok (.iload 4, 2) := by decide +kernel
theorem d_M_event_74 : decode prog_10_method_29_code 74 = .ok (.imul, 1) := by decide +kernel
theorem d_M_event_75 : decode prog_10_method_29_code 75 = .ok (.iload 5, 2) := by decide +kernel
theorem d_M_event_77 : decode prog_10_method_29_code 77 = .ok (.iadd, 1) := by decide +kernel
theorem d_M_event_78 : decode prog_10_method_29_code 78 = .ok (.baload, 1) := by decide +kernel
theorem d_M_event_79 : decode prog_10_method_29_code 79 = .ok (.ifCond .ne 41, 3) := by decide +kernel
theorem d_M_event_82 : decode prog_10_method_29_code 82 = .ok (.aload_n 0, 1) := by decide +kernel
theorem d_M_event_83 : decode prog_10_method_29_code 83 = .ok (.getfield 65, 3) := by decide +kernel
theorem d_M_event_86 : decode prog_10_method_29_code 86 = .ok (.iload 4, 2) := by decide +kernel
theorem d_M_event_88 : decode prog_10_method_29_code 88 = .ok (.iaload, 1) := by decide +kernel
theorem d_M_event_89 : decode prog_10_method_29_code 89 = .ok (.bipush 30, 2) := by decide +kernel
theorem d_M_event_91 : decode prog_10_method_29_code 91 = .ok (.if_icmp .ge 29, 3) := by decide +kernel
theorem d_M_event_94 : decode prog_10_method_29_code 94 = .ok (.aload_n 0, 1) := by decide +kernel
theorem d_M_event_95 : decode prog_10_method_29_code 95 = .ok (.getfield 61, 3) := by decide +kernel
theorem d_M_event_98 : decode prog_10_method_29_code 98 = .ok (.sipush 401, 3) := by decide +kernel
theorem d_M_event_101 : decode prog_10_method_29_code 101 = .ok (.iload 4, 2) := by decide +kernel
theorem d_M_event_103 : decode prog_10_method_29_code 103 = .ok (.imul, 1) := by decide +kernel
theorem d_M_event_104 : decode prog_10_method_29_code 104 = .ok (.iload 5, 2) := by decide +kernel
theorem d_M_event_106 : decode prog_10_method_29_code 106 = .ok (.iadd, 1) := by decide +kernel
theorem d_M_event_107 : decode prog_10_method_29_code 107 = .ok (.iconst 1, 1) := by decide +kernel
theorem d_M_event_108 : decode prog_10_method_29_code 108 = .ok (.bastore, 1) := by decide +kernel
theorem d_M_event_109 : decode prog_10_method_29_code 109 = .ok (.aload_n 0, 1) := by decide +kernel
theorem d_M_event_110 : decode prog_10_method_29_code 110 = .ok (.getfield 65, 3) := by decide +kernel
theorem d_M_event_113 : decode prog_10_method_29_code 113 = .ok (.iload 4, 2) := by decide +kernel
theorem d_M_event_115 : decode prog_10_method_29_code 115 = .ok (.dup2, 1) := by decide +kernel
theorem d_M_event_116 : decode prog_10_method_29_code 116 = .ok (.iaload, 1) := by decide +kernel
theorem d_M_event_117 : decode prog_10_method_29_code 117 = .ok (.iconst 1, 1) := by decide +kernel
theorem d_M_event_118 : decode prog_10_method_29_code 118 = .ok (.iadd, 1) := by decide +kernel
theorem d_M_event_119 : decode prog_10_method_29_code 119 = .ok (.iastore, 1) := by decide +kernel
theorem d_M_event_120 : decode prog_10_method_29_code 120 = .ok (.return_, 1) := by decide +kernel
theorem d_M_become_0 : decode prog_10_method_26_code 0 = .ok (.aload_n 0, 1) := by decide +kernel
theorem d_M_become_1 : decode prog_10_method_26_code 1 = .ok (.iload_n 2, 1) := by decide +kernel
theorem d_M_become_2 : decode prog_10_method_26_code 2 = .ok (.aload_n 0, 1) := by decide +kernel
theorem d_M_become_3 : decode prog_10_method_26_code 3 = .ok (.getfield 55, 3) := by decide +kernel
theorem d_M_become_6 : decode prog_10_method_26_code 6 = .ok (.iconst 4, 1) := by decide +kernel
theorem d_M_become_7 : decode prog_10_method_26_code 7 = .ok (.iload_n 1, 1) := by decide +kernel
theorem d_M_become_8 : decode prog_10_method_26_code 8 = .ok (.imul, 1) := by decide +kernel
theorem d_M_become_9 : decode prog_10_method_26_code 9 = .ok (.iload_n 2, 1) := by decide +kernel
theorem d_M_become_10 : decode prog_10_method_26_code 10 = .ok (.iadd, 1) := by decide +kernel
theorem d_M_become_11 : decode prog_10_method_26_code 11 = .ok (.iaload, 1) := by decide +kernel
theorem d_M_become_12 : decode prog_10_method_26_code 12 = .ok (.invokevirtual 144, 3) := by decide +kernel
theorem d_M_become_15 : decode prog_10_method_26_code 15 = .ok (.aload_n 0, 1) := by decide +kernel
theorem d_M_become_16 : decode prog_10_method_26_code 16 = .ok (.aload_n 0, 1) := by decide +kernel
theorem d_M_become_17 : decode prog_10_method_26_code 17 = .ok (.getfield 49, 3) := by decide +kernel
theorem d_M_become_20 : decode prog_10_method_26_code 20 = .ok (.invokevirtual 169, 3) := by decide +kernel
theorem d_M_become_23 : decode prog_10_method_26_code 23 = .ok (.aload_n 0, 1) := by decide +kernel
theorem d_M_become_24 : decode prog_10_method_26_code 24 = .ok (.getfield 55, 3) := by decide +kernel
theorem d_M_become_27 : decode prog_10_method_26_code 27 = .ok (.iconst 4, 1) := by decide +kernel
theorem d_M_become_28 : decode prog_10_method_26_code 28 = .ok (.iload_n 1, 1) := by decide +kernel
theorem d_M_become_29 : decode prog_10_method_26_code 29 = .ok (.imul, 1) := by decide +kernel
theorem d_M_become_30 : decode prog_10_method_26_code 30 = .ok (.iload_n 2, 1) := by decide +kernel
theorem d_M_become_31 : decode prog_10_method_26_code 31 = .ok (.iadd, 1) := by decide +kernel
theorem d_M_become_32 : decode prog_10_method_26_code 32 = .ok (.iload_n 3, 1) := by decide +kernel
theorem d_M_become_33 : decode prog_10_method_26_code 33 = .ok (.iastore, 1) := by decide +kernel
theorem d_M_become_34 : decode prog_10_method_26_code 34 = .ok (.aload_n 0, 1) := by decide +kernel
theorem d_M_become_35 : decode prog_10_method_26_code 35 = .ok (.iload_n 2, 1) := by decide +kernel
theorem d_M_become_36 : decode prog_10_method_26_code 36 = .ok (.iload_n 3, 1) := by decide +kernel
theorem d_M_become_37 : decode prog_10_method_26_code 37 = .ok (.invokevirtual 144, 3) := by decide +kernel
theorem d_M_become_40 : decode prog_10_method_26_code 40 = .ok (.aload_n 0, 1) := by decide +kernel
theorem d_M_become_41 : decode prog_10_method_26_code 41 = .ok (.aload_n 0, 1) := by decide +kernel
theorem d_M_become_42 : decode prog_10_method_26_code 42 = .ok (.getfield 52, 3) := by decide +kernel
theorem d_M_become_45 : decode prog_10_method_26_code 45 = .ok (.invokevirtual 169, 3) := by decide +kernel
theorem d_M_become_48 : decode prog_10_method_26_code 48 = .ok (.iconst 1, 1) := by decide +kernel
theorem d_M_become_49 : decode prog_10_method_26_code 49 = .ok (.istore 4, 2) := by decide +kernel
theorem d_M_become_51 : decode prog_10_method_26_code 51 = .ok (.iconst 0, 1) := by decide +kernel
theorem d_M_become_52 : decode prog_10_method_26_code 52 = .ok (.istore 5, 2) := by decide +kernel
theorem d_M_become_54 : decode prog_10_method_26_code 54 = .ok (.iload 5, 2) := by decide +kernel
theorem d_M_become_56 : decode prog_10_method_26_code 56 = .ok (.bipush 19, 2) := by decide +kernel
theorem d_M_become_58 : decode prog_10_method_26_code 58 = .ok (.if_icmp .ge 29, 3) := by decide +kernel
theorem d_M_become_61 : decode prog_10_method_26_code 61 = .ok (.aload_n 0, 1) := by decide +kernel
theorem d_M_become_62 : decode prog_10_method_26_code 62 = .ok (.getfield 49, 3) := by decide +kernel
theorem d_M_become_65 : decode prog_10_method_26_code 65 = .ok (.iload 5, 2) := by decide +kernel
theorem d_M_become_67 : decode prog_10_method_26_code 67 = .ok (.iaload, 1) := by decide +kernel
theorem d_M_become_68 : decode prog_10_method_26_code 68 = .ok (.aload_n 0, 1) := by decide +kernel
theorem d_M_become_69 : decode prog_10_method_26_code 69 = .ok (.getfield 52, 3) := by decide +kernel
theorem d_M_become_72 : decode prog_10_method_26_code 72 = .ok (.iload 5, 2) := by decide +kernel
theorem d_M_become_74 : decode prog_10_method_26_code 74 = .ok (.iaload, 1) := by decide +kernel
theorem d_M_become_75 : decode prog_10_method_26_code 75 = .ok (.if_icmp .eq 6, 3) := by decide +kernel
theorem d_M_become_78 : decode prog_10_method_26_code 78 = .ok (.iconst 0, 1) := by decide +kernel
theorem d_M_become_79 : decode prog_10_method_26_code 79 = .ok (.istore 4, 2) := by decide +kernel
theorem d_M_become_81 : decode prog_10_method_26_code 81 = .ok (.iinc 5 1, 3) := by decide +kernel
theorem d_M_become_84 : decode prog_10_method_26_code 84 = .ok (.goto (-30), 3) := by decide +kernel
theorem d_M_become_87 : decode prog_10_method_26_code 87 = .ok (.iconst 0, 1) := by decide +kernel
theorem d_M_become_88 : decode prog_10_method_26_code 88 = .ok (.istore 5, 2) := by decide +kernel
theorem d_M_become_90 : decode prog_10_method_26_code 90 = .ok (.iload 5, 2) := by decide +kernel
theorem d_M_become_92 : decode prog_10_method_26_code 92 = .ok (.aload_n 0, 1) := by decide +kernel
theorem d_M_become_93 : decode prog_10_method_26_code 93 = .ok (.getfield 92, 3) := by decide +kernel
theorem d_M_become_96 : decode prog_10_method_26_code 96 = .ok (.iload_n 1, 1) := by decide +kernel
theorem d_M_become_97 : decode prog_10_method_26_code 97 = .ok (.iaload, 1) := by decide +kernel
theorem d_M_become_98 : decode prog_10_method_26_code 98 = .ok (.if_icmp .ge 27, 3) := by decide +kernel
theorem d_M_become_101 : decode prog_10_method_26_code 101 = .ok (.aload_n 0, 1) := by decide +kernel
theorem d_M_become_102 : decode prog_10_method_26_code 102 = .ok (.getfield 89, 3) := by decide +kernel
theorem d_M_become_105 : decode prog_10_method_26_code 105 = .ok (.iconst 4, 1) := by decide +kernel
theorem d_M_become_106 : decode prog_10_method_26_code 106 = .ok (.iload_n 1, 1) := by decide +kernel
theorem d_M_become_107 : decode prog_10_method_26_code 107 = .ok (.imul, 1) := by decide +kernel
theorem d_M_become_108 : decode prog_10_method_26_code 108 = .ok (.iload 5, 2) := by decide +kernel
theorem d_M_become_110 : decode prog_10_method_26_code 110 = .ok (.iadd, 1) := by decide +kernel
theorem d_M_become_111 : decode prog_10_method_26_code 111 = .ok (.iaload, 1) := by decide +kernel
theorem d_M_become_112 : decode prog_10_method_26_code 112 = .ok (.iload_n 2, 1) := by decide +kernel
theorem d_M_become_113 : decode prog_10_method_26_code 113 = .ok (.if_icmp .ne 6, 3) := by decide +kernel
theorem d_M_become_116 : decode prog_10_method_26_code 116 = .ok (.iconst 1, 1) := by decide +kernel
theorem d_M_become_117 : decode prog_10_method_26_code 117 = .ok (.istore 4, 2) := by decide +kernel
theorem d_M_become_119 : decode prog_10_method_26_code 119 = .ok (.iinc 5 1, 3) := by decide +kernel
theorem d_M_become_122 : decode prog_10_method_26_code 122 = .ok (.goto (-32), 3) := by decide +kernel
theorem d_M_become_125 : decode prog_10_method_26_code 125 = .ok (.iload 4, 2) := by decide +kernel
theorem d_M_become_127 : decode prog_10_method_26_code 127 = .ok (.ifCond .eq 4, 3) := by decide +kernel
theorem d_M_become_130 : decode prog_10_method_26_code 130 = .ok (.return_, 1) := by decide +kernel
theorem d_M_become_131 : decode prog_10_method_26_code 131 = .ok (.aload_n 0, 1) := by decide +kernel
theorem d_M_become_132 : decode prog_10_method_26_code 132 = .ok (.getfield 89, 3) := by decide +kernel
theorem d_M_become_135 : decode prog_10_method_26_code 135 = .ok (.iconst 4, 1) := by decide +kernel
theorem d_M_become_136 : decode prog_10_method_26_code 136 = .ok (.iload_n 1, 1) := by decide +kernel
theorem d_M_become_137 : decode prog_10_method_26_code 137 = .ok (.imul, 1) := by decide +kernel
theorem d_M_become_138 : decode prog_10_method_26_code 138 = .ok (.aload_n 0, 1) := by decide +kernel
theorem d_M_become_139 : decode prog_10_method_26_code 139 = .ok (.getfield 92, 3) := by decide +kernel
theorem d_M_become_142 : decode prog_10_method_26_code 142 = .ok (.iload_n 1, 1) := by decide +kernel
theorem d_M_become_143 : decode prog_10_method_26_code 143 = .ok (.iaload, 1) := by decide +kernel
theorem d_M_become_144 : decode prog_10_method_26_code 144 = .ok (.iadd, 1) := by decide +kernel
theorem d_M_become_145 : decode prog_10_method_26_code 145 = .ok (.iload_n 2, 1) := by decide +kernel
theorem d_M_become_146 : decode prog_10_method_26_code 146 = .ok (.iastore, 1) := by decide +kernel
theorem d_M_become_147 : decode prog_10_method_26_code 147 = .ok (.aload_n 0, 1) := by decide +kernel
theorem d_M_become_148 : decode prog_10_method_26_code 148 = .ok (.getfield 92, 3) := by decide +kernel
theorem d_M_become_151 : decode prog_10_method_26_code 151 = .ok (.iload_n 1, 1) := by decide +kernel
theorem d_M_become_152 : decode prog_10_method_26_code 152 = .ok (.dup2, 1) := by decide +kernel
theorem d_M_become_153 : decode prog_10_method_26_code 153 = .ok (.iaload, 1) := by decide +kernel
theorem d_M_become_154 : decode prog_10_method_26_code 154 = .ok (.iconst 1, 1) := by decide +kernel
theorem d_M_become_155 : decode prog_10_method_26_code 155 = .ok (.iadd, 1) := by decide +kernel
theorem d_M_become_156 : decode prog_10_method_26_code 156 = .ok (.iastore, 1) := by decide +kernel
theorem d_M_become_157 : decode prog_10_method_26_code 157 = .ok (.return_, 1) := by decide +kernel
theorem d_M_look_0 : decode prog_10_method_14_code 0 = .ok (.iconst 0, 1) := by decide +kernel
theorem d_M_look_1 : decode prog_10_method_14_code 1 = .ok (.istore_n 2, 1) := by decide +kernel
theorem d_M_look_2 : decode prog_10_method_14_code 2 = .ok (.iload_n 2, 1) := by decide +kernel
theorem d_M_look_3 : decode prog_10_method_14_code 3 = .ok (.iconst 2, 1) := by decide +kernel
theorem d_M_look_4 : decode prog_10_method_14_code 4 = .ok (.if_icmp .ge 58, 3) := by decide +kernel
theorem d_M_look_7 : decode prog_10_method_14_code 7 = .ok (.iconst 0, 1) := by decide +kernel
theorem d_M_look_8 : decode prog_10_method_14_code 8 = .ok (.istore_n 3, 1) := by decide +kernel
theorem d_M_look_9 : decode prog_10_method_14_code 9 = .ok (.iload_n 3, 1) := by decide +kernel
theorem d_M_look_10 : decode prog_10_method_14_code 10 = .ok (.iconst 3, 1) := by decide +kernel
theorem d_M_look_11 : decode prog_10_method_14_code 11 = .ok (.if_icmp .ge 45, 3) := by decide +kernel
theorem d_M_look_14 : decode prog_10_method_14_code 14 = .ok (.iconst 0, 1) := by decide +kernel
theorem d_M_look_15 : decode prog_10_method_14_code 15 = .ok (.istore 4, 2) := by decide +kernel
theorem d_M_look_17 : decode prog_10_method_14_code 17 = .ok (.iload 4, 2) := by decide +kernel
theorem d_M_look_19 : decode prog_10_method_14_code 19 = .ok (.iconst 3, 1) := by decide +kernel
theorem d_M_look_20 : decode prog_10_method_14_code 20 = .ok (.if_icmp .ge 30, 3) := by decide +kernel
theorem d_M_look_23 : decode prog_10_method_14_code 23 = .ok (.aload_n 1, 1) := by decide +kernel
theorem d_M_look_24 : decode prog_10_method_14_code 24 = .ok (.bipush 9, 2) := by decide +kernel
theorem d_M_look_26 : decode prog_10_method_14_code 26 = .ok (.iload_n 2, 1) := by decide +kernel
theorem d_M_look_27 : decode prog_10_method_14_code 27 = .ok (.imul, 1) := by decide +kernel
theorem d_M_look_28 : decode prog_10_method_14_code 28 = .ok (.iconst 3, 1) := by decide +kernel
theorem d_M_look_29 : decode prog_10_method_14_code 29 = .ok (.iload_n 3, 1) := by decide +kernel
theorem d_M_look_30 : decode prog_10_method_14_code 30 = .ok (.imul, 1) := by decide +kernel
theorem d_M_look_31 : decode prog_10_method_14_code 31 = .ok (.iadd, 1) := by decide +kernel
theorem d_M_look_32 : decode prog_10_method_14_code 32 = .ok (.iload 4, 2) := by decide +kernel
theorem d_M_look_34 : decode prog_10_method_14_code 34 = .ok (.iadd, 1) := by decide +kernel
theorem d_M_look_35 : decode prog_10_method_14_code 35 = .ok (.aload_n 0, 1) := by decide +kernel
theorem d_M_look_36 : decode prog_10_method_14_code 36 = .ok (.iload_n 2, 1) := by decide +kernel
theorem d_M_look_37 : decode prog_10_method_14_code 37 = .ok (.iload_n 3, 1) := by decide +kernel
theorem d_M_look_38 : decode prog_10_method_14_code 38 = .ok (.iload 4, 2) := by decide +kernel
theorem d_M_look_40 : decode prog_10_method_14_code 40 = .ok (.invokevirtual 140, 3) := by decide +kernel
theorem d_M_look_43 : decode prog_10_method_14_code 43 = .ok (.iastore, 1) := by decide +kernel
theorem d_M_look_44 : decode prog_10_method_14_code 44 = .ok (.iinc 4 1, 3) := by decide +kernel
theorem d_M_look_47 : decode prog_10_method_14_code 47 = .ok (.goto (-30), 3) := by decide +kernel
theorem d_M_look_50 : decode prog_10_method_14_code 50 = .ok (.iinc 3 1, 3) := by decide +kernel
theorem d_M_look_53 : decode prog_10_method_14_code 53 = .ok (.goto (-44), 3) := by decide +kernel
theorem d_M_look_56 : decode prog_10_method_14_code 56 = .ok (.iinc 2 1, 3) := by decide +kernel
theorem d_M_look_59 : decode prog_10_method_14_code 59 = .ok (.goto (-57), 3) := by decide +kernel
theorem d_M_look_62 : decode prog_10_method_14_code 62 = .ok (.aload_n 1, 1) := by decide +kernel
theorem d_M_look_63 : decode prog_10_method_14_code 63 = .ok (.bipush 18, 2) := by decide +kernel
theorem d_M_look_65 : decode prog_10_method_14_code 65 = .ok (.aload_n 0, 1) := by decide +kernel
theorem d_M_look_66 : decode prog_10_method_14_code 66 = .ok (.getfield 118, 3) := by decide +kernel
theorem d_M_look_69 : decode prog_10_method_14_code 69 = .ok (.ifCond .eq 7, 3) := by decide +kernel
theorem d_M_look_72 : decode prog_10_method_14_code 72 = .ok (.iconst 1, 1) := by decide +kernel
theorem d_M_look_73 : decode prog_10_method_14_code 73 = .ok (.goto 4, 3) := by decide +kernel
theorem d_M_look_76 : decode prog_10_method_14_code 76 = .ok (.iconst 0, 1) := by decide +kernel
theorem d_M_look_77 : decode prog_10_method_14_code 77 = .ok (.iastore, 1) := by decide +kernel
theorem d_M_look_78 : decode prog_10_method_14_code 78 = .ok (.return_, 1) := by decide +kernel
theorem d_M_ofLevel_0 : decode prog_10_method_13_code 0 = .ok (.aload_n 0, 1) := by decide +kernel
theorem d_M_ofLevel_1 : decode prog_10_method_13_code 1 = .ok (.iload_n 1, 1) := by decide +kernel
theorem d_M_ofLevel_2 : decode prog_10_method_13_code 2 = .ok (.iload_n 2, 1) := by decide +kernel
theorem d_M_ofLevel_3 : decode prog_10_method_13_code 3 = .ok (.invokevirtual 136, 3) := by decide +kernel
theorem d_M_ofLevel_6 : decode prog_10_method_13_code 6 = .ok (.istore 4, 2) := by decide +kernel
theorem d_M_ofLevel_8 : decode prog_10_method_13_code 8 = .ok (.iload 4, 2) := by decide +kernel
theorem d_M_ofLevel_10 : decode prog_10_method_13_code 10 = .ok (.ifCond .ge 6, 3) := by decide +kernel
theorem d_M_ofLevel_13 : decode prog_10_method_13_code 13 = .ok (.ldc 139, 2) := by decide +kernel
theorem d_M_ofLevel_15 : decode prog_10_method_13_code 15 = .ok (.ireturn, 1) := by decide +kernel
theorem d_M_ofLevel_16 : decode prog_10_method_13_code 16 = .ok (.iload_n 3, 1) := by decide +kernel
theorem d_M_ofLevel_17 : decode prog_10_method_13_code 17 = .ok (.ifCond .ne 11, 3) := by decide +kernel
theorem d_M_ofLevel_20 : decode prog_10_method_13_code 20 = .ok (.aload_n 0, 1) := by decide +kernel
theorem d_M_ofLevel_21 : decode prog_10_method_13_code 21 = .ok (.getfield 43, 3) := by decide +kernel
theorem d_M_ofLevel_24 : decode prog_10_method_13_code 24 = .ok (.iload 4, 2) := by decide +kernel
theorem d_M_ofLevel_26 : decode prog_10_method_13_code 26 = .ok (.iaload, 1) := by decide +kernel
theorem d_M_ofLevel_27 : decode prog_10_method_13_code 27 = .ok (.ireturn, 1) := by decide +kernel
theorem d_M_ofLevel_28 : decode prog_10_method_13_code 28 = .ok (.iconst 0, 1) := by decide +kernel
theorem d_M_ofLevel_29 : decode prog_10_method_13_code 29 = .ok (.istore 5, 2) := by decide +kernel
theorem d_M_ofLevel_31 : decode prog_10_method_13_code 31 = .ok (.iconst 0, 1) := by decide +kernel
theorem d_M_ofLevel_32 : decode prog_10_method_13_code 32 = .ok (.istore 6, 2) := by decide +kernel
theorem d_M_ofLevel_34 : decode prog_10_method_13_code 34 = .ok (.iconst 0, 1) := by decide +kernel
theorem d_M_ofLevel_35 : decode prog_10_method_13_code 35 = .ok (.istore 7, 2) := by decide +kernel
theorem d_M_ofLevel_37 : decode prog_10_method_13_code 37 = .ok (.iload 7, 2) := by decide +kernel
theorem d_M_ofLevel_39 : decode prog_10_method_13_code 39 = .ok (.aload_n 0, 1) := by decide +kernel
theorem d_M_ofLevel_40 : decode prog_10_method_13_code 40 = .ok (.getfield 106, 3) := by decide +kernel
theorem d_M_ofLevel_43 : decode prog_10_method_13_code 43 = .ok (.if_icmp .ge 52, 3) := by decide +kernel
theorem d_M_ofLevel_46 : decode prog_10_method_13_code 46 = .ok (.aload_n 0, 1) := by decide +kernel
theorem d_M_ofLevel_47 : decode prog_10_method_13_code 47 = .ok (.getfield 40, 3) := by decide +kernel
theorem d_M_ofLevel_50 : decode prog_10_method_13_code 50 = .ok (.iload 7, 2) := by decide +kernel
theorem d_M_ofLevel_52 : decode prog_10_method_13_code 52 = .ok (.iaload, 1) := by decide +kernel
theorem d_M_ofLevel_53 : decode prog_10_method_13_code 53 = .ok (.iload_n 1, 1) := by decide +kernel
theorem d_M_ofLevel_54 : decode prog_10_method_13_code 54 = .ok (.if_icmp .ne 35, 3) := by decide +kernel
theorem d_M_ofLevel_57 : decode prog_10_method_13_code 57 = .ok (.aload_n 0, 1) := by decide +kernel
theorem d_M_ofLevel_58 : decode prog_10_method_13_code 58 = .ok (.getfield 43, 3) := by decide +kernel
theorem d_M_ofLevel_61 : decode prog_10_method_13_code 61 = .ok (.iload 7, 2) := by decide +kernel
theorem d_M_ofLevel_63 : decode prog_10_method_13_code 63 = .ok (.iaload, 1) := by decide +kernel
theorem d_M_ofLevel_64 : decode prog_10_method_13_code 64 = .ok (.aload_n 0, 1) := by decide +kernel
theorem d_M_ofLevel_65 : decode prog_10_method_13_code 65 = .ok (.getfield 43, 3) := by decide +kernel
theorem d_M_ofLevel_68 : decode prog_10_method_13_code 68 = .ok (.iload 4, 2) := by decide +kernel
theorem d_M_ofLevel_70 : decode prog_10_method_13_code 70 = .ok (.iaload, 1) := by decide +kernel
theorem d_M_ofLevel_71 : decode prog_10_method_13_code 71 = .ok (.if_icmp .ne 18, 3) := by decide +kernel
theorem d_M_ofLevel_74 : decode prog_10_method_13_code 74 = .ok (.iload 5, 2) := by decide +kernel
theorem d_M_ofLevel_76 : decode prog_10_method_13_code 76 = .ok (.aload_n 0, 1) := by decide +kernel
theorem d_M_ofLevel_77 : decode prog_10_method_13_code 77 = .ok (.getfield 46, 3) := by decide +kernel
theorem d_M_ofLevel_80 : decode prog_10_method_13_code 80 = .ok (.iload 7, 2) := by decide +kernel
theorem d_M_ofLevel_82 : decode prog_10_method_13_code 82 = .ok (.iaload, 1) := by decide +kernel
theorem d_M_ofLevel_83 : decode prog_10_method_13_code 83 = .ok (.iadd, 1) := by decide +kernel
theorem d_M_ofLevel_84 : decode prog_10_method_13_code 84 = .ok (.istore 5, 2) := by decide +kernel
theorem d_M_ofLevel_86 : decode prog_10_method_13_code 86 = .ok (.iinc 6 1, 3) := by decide +kernel
theorem d_M_ofLevel_89 : decode prog_10_method_13_code 89 = .ok (.iinc 7 1, 3) := by decide +kernel
theorem d_M_ofLevel_92 : decode prog_10_method_13_code 92 = .ok (.goto (-55), 3) := by decide +kernel
theorem d_M_ofLevel_95 : decode prog_10_method_13_code 95 = .ok (.iload_n 3, 1) := by decide +kernel
theorem d_M_ofLevel_96 : decode prog_10_method_13_code 96 = .ok (.iconst 1, 1) := by decide +kernel
theorem d_M_ofLevel_97 : decode prog_10_method_13_code 97 = .ok (.if_icmp .ne 8, 3) := by decide +kernel
theorem d_M_ofLevel_100 : decode prog_10_method_13_code 100 = .ok (.iload 5, 2) := by decide +kernel
theorem d_M_ofLevel_102 : decode prog_10_method_13_code 102 = .ok (.goto 5, 3) := by decide +kernel
theorem d_M_ofLevel_105 : decode prog_10_method_13_code 105 = .ok (.iload 6, 2) := by decide +kernel
theorem d_M_ofLevel_107 : decode prog_10_method_13_code 107 = .ok (.ireturn, 1) := by decide +kernel
