theorem d_M_statement_0 : decode prog_13_method_18_code 0 = .ok (.aload_n 0, 1) := by decide +kernel
theorem d_M_statement_1 : decode prog_13_method_18_code 1 = .ok (.ldc 131, 2) := by decide +kernel
theorem d_M_statement_3 : decode prog_13_method_18_code 3 = .ok (.invokevirtual 109, 3) := by decide +kernel
theorem d_M_statement_6 : decode prog_13_method_18_code 6 = .ok (.ifCond .ne 12, 3) := by decide +kernel
theorem d_M_statement_9 : decode prog_13_method_18_code 9 = .ok (.aload_n 0, 1) := by decide +kernel
theorem d_M_statement_10 : decode prog_13_method_18_code 10 = .ok (.ldc 135, 2) := by decide +kernel
theorem d_M_statement_12 : decode prog_13_method_18_code 12 = .ok (.invokevirtual 109, 3) := by decide +kernel
theorem d_M_statement_15 : decode prog_13_method_18_code 15 = .ok (.ifCond .eq 193, 3) := by decide +kernel
theorem d_M_statement_18 : decode prog_13_method_18_code 18 = .ok (.aload_n 0, 1) := by decide +kernel
theorem d_M_statement_19 : decode prog_13_method_18_code 19 = .ok (.getfield 149, 3) := by decide +kernel
theorem d_M_statement_22 : decode prog_13_method_18_code 22 = .ok (.getfield 232, 3) := by decide +kernel
theorem d_M_statement_25 : decode prog_13_method_18_code 25 = .ok (.iload_n 1, 1) := by decide +kernel
theorem d_M_statement_26 : decode prog_13_method_18_code 26 = .ok (.aload_n 0, 1) := by decide +kernel
theorem d_M_statement_27 : decode prog_13_method_18_code 27 = .ok (.ldc 131, 2) := by decide +kernel
theorem d_M_statement_29 : decode prog_13_method_18_code 29 = .ok (.invokevirtual 109, 3) := by decide +kernel
theorem d_M_statement_32 : decode prog_13_method_18_code 32 = .ok (.ifCond .eq 8, 3) := by decide +kernel
theorem d_M_statement_35 : decode prog_13_method_18_code 35 = .ok (.bipush 7, 2) := by decide +kernel
theorem d_M_statement_37 : decode prog_13_method_18_code 37 = .ok (.goto 5, 3) := by decide +kernel
theorem d_M_statement_40 : decode prog_13_method_18_code 40 = .ok (.bipush 8, 2) := by decide +kernel
theorem d_M_statement_42 : decode prog_13_method_18_code 42 = .ok (.iastore, 1) := by decide +kernel
theorem d_M_statement_43 : decode prog_13_method_18_code 43 = .ok (.aload_n 0, 1) := by decide +kernel
theorem d_M_statement_44 : decode prog_13_method_18_code 44 = .ok (.invokevirtual 146, 3) := by decide +kernel
theorem d_M_statement_47 : decode prog_13_method_18_code 47 = .ok (.aload_n 0, 1) := by decide +kernel
theorem d_M_statement_48 : decode prog_13_method_18_code 48 = .ok (.ldc 234, 2) := by decide +kernel
theorem d_M_statement_50 : decode prog_13_method_18_code 50 = .ok (.invokevirtual 205, 3) := by decide +kernel
theorem d_M_statement_53 : decode prog_13_method_18_code 53 = .ok (.ifCond .eq 20, 3) := by decide +kernel
theorem d_M_statement_56 : decode prog_13_method_18_code 56 = .ok (.aload_n 0, 1) := by decide +kernel
theorem d_M_statement_57 : decode prog_13_method_18_code 57 = .ok (.iload_n 1, 1) := by decide +kernel
theorem d_M_statement_58 : decode prog_13_method_18_code 58 = .ok (.invokevirtual 236, 3) := by decide +kernel
theorem d_M_statement_61 : decode prog_13_method_18_code 61 = .ok (.ifCond .eq 12, 3) := by decide +kernel
theorem d_M_statement_64 : decode prog_13_method_18_code 64 = .ok (.aload_n 0, 1) := by decide +kernel
theorem d_M_statement_65 : decode prog_13_method_18_code 65 = .ok (.ldc 239, 2) := by decide +kernel
theorem d_M_statement_67 : decode prog_13_method_18_code 67 = .ok (.invokevirtual 205, 3) := by decide +kernel
theorem d_M_statement_70 : decode prog_13_method_18_code 70 = .ok (.ifCond .ne 5, 3) := by decide +kernel
theorem d_M_statement_73 : decode prog_13_method_18_code 73 = .ok (.iconst 0, 1) := by decide +kernel
theorem d_M_statement_74 : decode prog_13_method_18_code 74 = .ok (.ireturn, 1) := by decide +kernel
theorem d_M_statement_75 : decode prog_13_method_18_code 75 = .ok (.aload_n 0, 1) := by decide +kernel
theorem d_M_statement_76 : decode prog_13_method_18_code 76 = .ok (.getfield 174, 3) := by decide +kernel
theorem d_M_statement_79 : decode prog_13_method_18_code 79 = .ok (.istore_n 3, 1) := by decide +kernel
theorem d_M_statement_80 : decode prog_13_method_18_code 80 = .ok (.aload_n 0, 1) := by decide +kernel
theorem d_M_statement_81 : decode prog_13_method_18_code 81 = .ok (.getfield 23, 3) := by decide +kernel
theorem d_M_statement_84 : decode prog_13_method_18_code 84 = .ok (.aload_n 0, 1) := by decide +kernel
theorem d_M_statement_85 : decode prog_13_method_18_code 85 = .ok (.dup, 1) := by decide +kernel
theorem d_M_statement_86 : decode prog_13_method_18_code 86 = .ok (.getfield 174, 3) := by decide +kernel
theorem d_M_statement_89 : decode prog_13_method_18_code 89 = .ok (.dup_x1, 1) := by decide +kernel
theorem d_M_statement_90 : decode prog_13_method_18_code 90 = .ok (.iconst 1, 1) := by decide +kernel
theorem d_M_statement_91 : decode prog_13_method_18_code 91 = .ok (.iadd, 1) := by decide +kernel
theorem d_M_statement_92 : decode prog_13_method_18_code 92 = .ok (.putfield 174, 3) := by decide +kernel
theorem d_M_statement_95 : decode prog_13_method_18_code 95 = .ok (.iconst 3, 1) := by decide +kernel
theorem d_M_statement_96 : decode prog_13_method_18_code 96 = .ok (.iload_n 1, 1) := by decide +kernel
theorem d_M_statement_97 : decode prog_13_method_18_code 97 = .ok (.imul, 1) := by decide +kernel
theorem d_M_statement_98 : decode prog_13_method_18_code 98 = .ok (.iconst 1, 1) := by decide +kernel
theorem d_M_statement_99 : decode prog_13_method_18_code 99 = .ok (.iadd, 1) := by decide +kernel
theorem d_M_statement_100 : decode prog_13_method_18_code 100 = .ok (.iastore, 1) := by decide +kernel
theorem d_M_statement_101 : decode prog_13_method_18_code 101 = .ok (.aload_n 0, 1) := by decide +kernel
theorem d_M_statement_102 : decode prog_13_method_18_code 102 = .ok (.iload_n 2, 1) := by decide +kernel
theorem d_M_statement_103 : decode prog_13_method_18_code 103 = .ok (.invokevirtual 241, 3) := by decide +kernel
theorem d_M_statement_106 : decode prog_13_method_18_code 106 = .ok (.ifCond .ne 5, 3) := by decide +kernel
theorem d_M_statement_109 : decode prog_13_method_18_code 109 = .ok (.iconst 0, 1) := by decide +kernel
theorem d_M_statement_110 : decode prog_13_method_18_code 110 = .ok (.ireturn, 1) := by decide +kernel
theorem d_M_statement_111 : decode prog_13_method_18_code 111 = .ok (.aload_n 0, 1) := by decide +kernel
theorem d_M_statement_112 : decode prog_13_method_18_code 112 = .ok (.getfield 149, 3) := by decide +kernel
theorem d_M_statement_115 : decode prog_13_method_18_code 115 = .ok (.getfield 232, 3) := by decide +kernel
theorem d_M_statement_118 : decode prog_13_method_18_code 118 = .ok (.iload_n 1, 1) := by decide +kernel
theorem d_M_statement_119 : decode prog_13_method_18_code 119 = .ok (.iaload, 1) := by decide +kernel
theorem d_M_statement_120 : decode prog_13_method_18_code 120 = .ok (.bipush 8, 2) := by decide +kernel
theorem d_M_statement_122 : decode prog_13_method_18_code 122 = .ok (.if_icmp .ne 9, 3) := by decide +kernel
theorem d_M_statement_125 : decode prog_13_method_18_code 125 = .ok (.aload_n 0, 1) := by decide +kernel
theorem d_M_statement_126 : decode prog_13_method_18_code 126 = .ok (.iload_n 3, 1) := by decide +kernel
theorem d_M_statement_127 : decode prog_13_method_18_code 127 = .ok (.iload_n 1, 1) := by decide +kernel
theorem d_M_statement_128 : decode prog_13_method_18_code 128 = .ok (.invokevirtual 218, 3) := by decide +kernel
theorem d_M_statement_131 : decode prog_13_method_18_code 131 = .ok (.aload_n 0, 1) := by decide +kernel
theorem d_M_statement_132 : decode prog_13_method_18_code 132 = .ok (.getfield 149, 3) := by decide +kernel
theorem d_M_statement_135 : decode prog_13_method_18_code 135 = .ok (.getfield 232, 3) := by decide +kernel
theorem d_M_statement_138 : decode prog_13_method_18_code 138 = .ok (.iload_n 1, 1) := by decide +kernel
theorem d_M_statement_139 : decode prog_13_method_18_code 139 = .ok (.iaload, 1) := by decide +kernel
theorem d_M_statement_140 : decode prog_13_method_18_code 140 = .ok (.bipush 7, 2) := by decide +kernel
theorem d_M_statement_142 : decode prog_13_method_18_code 142 = .ok (.if_icmp .ne 43, 3) := by decide +kernel
theorem d_M_statement_145 : decode prog_13_method_18_code 145 = .ok (.aload_n 0, 1) := by decide +kernel
theorem d_M_statement_146 : decode prog_13_method_18_code 146 = .ok (.ldc 133, 2) := by decide +kernel
theorem d_M_statement_148 : decode prog_13_method_18_code 148 = .ok (.invokevirtual 109, 3) := by decide +kernel
theorem d_M_statement_151 : decode prog_13_method_18_code 151 = .ok (.ifCond .eq 34, 3) := by decide +kernel
theorem d_M_statement_154 : decode prog_13_method_18_code 154 = .ok (.aload_n 0, 1) := by decide +kernel
theorem d_M_statement_155 : decode prog_13_method_18_code 155 = .ok (.invokevirtual 146, 3) := by decide +kernel
theorem d_M_statement_158 : decode prog_13_method_18_code 158 = .ok (.aload_n 0, 1) := by decide +kernel
theorem d_M_statement_159 : decode prog_13_method_18_code 159 = .ok (.getfield 23, 3) := by decide +kernel
theorem d_M_statement_162 : decode prog_13_method_18_code 162 = .ok (.aload_n 0, 1) := by decide +kernel
theorem d_M_statement_163 : decode prog_13_method_18_code 163 = .ok (.dup, 1) := by decide +kernel
theorem d_M_statement_164 : decode prog_13_method_18_code 164 = .ok (.getfield 174, 3) := by decide +kernel
theorem d_M_statement_167 : decode prog_13_method_18_code 167 = .ok (.dup_x1, 1) := by decide +kernel
theorem d_M_statement_168 : decode prog_13_method_18_code 168 = .ok (.iconst 1, 1) := by decide +kernel
theorem d_M_statement_169 : decode prog_13_method_18_code 169 = .ok (.iadd, 1) := by decide +kernel
theorem d_M_statement_170 : decode prog_13_method_18_code 170 = .ok (.putfield 174, 3) := by decide +kernel
theorem d_M_statement_173 : decode prog_13_method_18_code 173 = .ok (.iconst 3, 1) := by decide +kernel
theorem d_M_statement_174 : decode prog_13_method_18_code 174 = .ok (.iload_n 1, 1) := by decide +kernel
theorem d_M_statement_175 : decode prog_13_method_18_code 175 = .ok (.imul, 1) := by decide +kernel
theorem d_M_statement_176 : decode prog_13_method_18_code 176 = .ok (.iconst 2, 1) := by decide +kernel
theorem d_M_statement_177 : decode prog_13_method_18_code 177 = .ok (.iadd, 1) := by decide +kernel
theorem d_M_statement_178 : decode prog_13_method_18_code 178 = .ok (.iastore, 1) := by decide +kernel
theorem d_M_statement_179 : decode prog_13_method_18_code 179 = .ok (.aload_n 0, 1) := by decide +kernel
theorem d_M_statement_180 : decode prog_13_method_18_code 180 = .ok (.iload_n 2, 1) := by decide +kernel
theorem d_M_statement_181 : decode prog_13_method_18_code 181 = .ok (.invokevirtual 241, 3) := by decide +kernel
theorem d_M_statement_184 : decode prog_13_method_18_code 184 = .ok (.ireturn, 1) := by decide +kernel
theorem d_M_statement_185 : decode prog_13_method_18_code 185 = .ok (.aload_n 0, 1) := by decide +kernel
theorem d_M_statement_186 : decode prog_13_method_18_code 186 = .ok (.getfield 23, 3) := by decide +kernel
theorem d_M_statement_189 : decode prog_13_method_18_code 189 = .ok (.aload_n 0, 1) := by decide +kernel
theorem d_M_statement_190 : decode prog_13_method_18_code 190 = .ok (.dup, 1) := by decide +kernel
theorem d_M_statement_191 : decode prog_13_method_18_code 191 = .ok (.getfield 174, 3) := by decide +kernel
theorem d_M_statement_194 : decode prog_13_method_18_code 194 = .ok (.dup_x1, 1) := by decide +kernel
theorem d_M_statement_195 : decode prog_13_method_18_code 195 = .ok (.iconst 1, 1) := by decide +kernel
