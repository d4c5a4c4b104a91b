theorem d_M_statement_616 : decode prog_13_method_18_code 616 = .ok (.getfield 244, 3) := by decide +kernel
theorem d_M_statement_619 : decode prog_13_method_18_code 619 = .ok (.iload_n 1, 1) := by decide +kernel
theorem d_M_statement_620 : decode prog_13_method_18_code 620 = .ok (.iload_n 3, 1) := by decide +kernel
theorem d_M_statement_621 : decode prog_13_method_18_code 621 = .ok (.iastore, 1) := by decide +kernel
theorem d_M_statement_622 : decode prog_13_method_18_code 622 = .ok (.aload_n 0, 1) := by decide +kernel
theorem d_M_statement_623 : decode prog_13_method_18_code 623 = .ok (.invokevirtual 146, 3) := by decide +kernel
theorem d_M_statement_626 : decode prog_13_method_18_code 626 = .ok (.aload_n 0, 1) := by decide +kernel
theorem d_M_statement_627 : decode prog_13_method_18_code 627 = .ok (.ldc 203, 2) := by decide +kernel
theorem d_M_statement_629 : decode prog_13_method_18_code 629 = .ok (.invokevirtual 205, 3) := by decide +kernel
theorem d_M_statement_632 : decode prog_13_method_18_code 632 = .ok (.ireturn, 1) := by decide +kernel
theorem d_M_thread_0 : decode prog_13_method_14_code 0 = .ok (.aload_n 0, 1) := by decide +kernel
theorem d_M_thread_1 : decode prog_13_method_14_code 1 = .ok (.ldc 115, 2) := by decide +kernel
theorem d_M_thread_3 : decode prog_13_method_14_code 3 = .ok (.invokevirtual 109, 3) := by decide +kernel
theorem d_M_thread_6 : decode prog_13_method_14_code 6 = .ok (.ifCond .eq 14, 3) := by decide +kernel
theorem d_M_thread_9 : decode prog_13_method_14_code 9 = .ok (.aload_n 0, 1) := by decide +kernel
theorem d_M_thread_10 : decode prog_13_method_14_code 10 = .ok (.getfield 149, 3) := by decide +kernel
theorem d_M_thread_13 : decode prog_13_method_14_code 13 = .ok (.getfield 164, 3) := by decide +kernel
theorem d_M_thread_16 : decode prog_13_method_14_code 16 = .ok (.iconst 4, 1) := by decide +kernel
theorem d_M_thread_17 : decode prog_13_method_14_code 17 = .ok (.if_icmp .ne 8, 3) := by decide +kernel
theorem d_M_thread_20 : decode prog_13_method_14_code 20 = .ok (.aload_n 0, 1) := by decide +kernel
theorem d_M_thread_21 : decode prog_13_method_14_code 21 = .ok (.invokevirtual 142, 3) := by decide +kernel
theorem d_M_thread_24 : decode prog_13_method_14_code 24 = .ok (.ireturn, 1) := by decide +kernel
theorem d_M_thread_25 : decode prog_13_method_14_code 25 = .ok (.aload_n 0, 1) := by decide +kernel
theorem d_M_thread_26 : decode prog_13_method_14_code 26 = .ok (.invokevirtual 146, 3) := by decide +kernel
theorem d_M_thread_29 : decode prog_13_method_14_code 29 = .ok (.aload_n 0, 1) := by decide +kernel
theorem d_M_thread_30 : decode prog_13_method_14_code 30 = .ok (.ldc 207, 2) := by decide +kernel
theorem d_M_thread_32 : decode prog_13_method_14_code 32 = .ok (.invokevirtual 205, 3) := by decide +kernel
theorem d_M_thread_35 : decode prog_13_method_14_code 35 = .ok (.ifCond .ne 5, 3) := by decide +kernel
theorem d_M_thread_38 : decode prog_13_method_14_code 38 = .ok (.iconst 0, 1) := by decide +kernel
theorem d_M_thread_39 : decode prog_13_method_14_code 39 = .ok (.ireturn, 1) := by decide +kernel
theorem d_M_thread_40 : decode prog_13_method_14_code 40 = .ok (.aload_n 0, 1) := by decide +kernel
theorem d_M_thread_41 : decode prog_13_method_14_code 41 = .ok (.getfield 149, 3) := by decide +kernel
theorem d_M_thread_44 : decode prog_13_method_14_code 44 = .ok (.getfield 164, 3) := by decide +kernel
theorem d_M_thread_47 : decode prog_13_method_14_code 47 = .ok (.istore_n 1, 1) := by decide +kernel
theorem d_M_thread_48 : decode prog_13_method_14_code 48 = .ok (.aload_n 0, 1) := by decide +kernel
theorem d_M_thread_49 : decode prog_13_method_14_code 49 = .ok (.aload_n 0, 1) := by decide +kernel
theorem d_M_thread_50 : decode prog_13_method_14_code 50 = .ok (.getfield 149, 3) := by decide +kernel
theorem d_M_thread_53 : decode prog_13_method_14_code 53 = .ok (.getfield 209, 3) := by decide +kernel
theorem d_M_thread_56 : decode prog_13_method_14_code 56 = .ok (.iload_n 1, 1) := by decide +kernel
theorem d_M_thread_57 : decode prog_13_method_14_code 57 = .ok (.aaload, 1) := by decide +kernel
theorem d_M_thread_58 : decode prog_13_method_14_code 58 = .ok (.putfield 213, 3) := by decide +kernel
theorem d_M_thread_61 : decode prog_13_method_14_code 61 = .ok (.aload_n 0, 1) := by decide +kernel
theorem d_M_thread_62 : decode prog_13_method_14_code 62 = .ok (.getfield 213, 3) := by decide +kernel
theorem d_M_thread_65 : decode prog_13_method_14_code 65 = .ok (.iconst 0, 1) := by decide +kernel
theorem d_M_thread_66 : decode prog_13_method_14_code 66 = .ok (.putfield 156, 3) := by decide +kernel
theorem d_M_thread_69 : decode prog_13_method_14_code 69 = .ok (.aload_n 0, 1) := by decide +kernel
theorem d_M_thread_70 : decode prog_13_method_14_code 70 = .ok (.getfield 149, 3) := by decide +kernel
theorem d_M_thread_73 : decode prog_13_method_14_code 73 = .ok (.dup, 1) := by decide +kernel
theorem d_M_thread_74 : decode prog_13_method_14_code 74 = .ok (.getfield 164, 3) := by decide +kernel
theorem d_M_thread_77 : decode prog_13_method_14_code 77 = .ok (.iconst 1, 1) := by decide +kernel
theorem d_M_thread_78 : decode prog_13_method_14_code 78 = .ok (.iadd, 1) := by decide +kernel
theorem d_M_thread_79 : decode prog_13_method_14_code 79 = .ok (.putfield 164, 3) := by decide +kernel
theorem d_M_thread_82 : decode prog_13_method_14_code 82 = .ok (.aload_n 0, 1) := by decide +kernel
theorem d_M_thread_83 : decode prog_13_method_14_code 83 = .ok (.ldc 117, 2) := by decide +kernel
theorem d_M_thread_85 : decode prog_13_method_14_code 85 = .ok (.invokevirtual 109, 3) := by decide +kernel
theorem d_M_thread_88 : decode prog_13_method_14_code 88 = .ok (.ifCond .eq 96, 3) := by decide +kernel
theorem d_M_thread_91 : decode prog_13_method_14_code 91 = .ok (.aload_n 0, 1) := by decide +kernel
theorem d_M_thread_92 : decode prog_13_method_14_code 92 = .ok (.invokevirtual 146, 3) := by decide +kernel
theorem d_M_thread_95 : decode prog_13_method_14_code 95 = .ok (.aload_n 0, 1) := by decide +kernel
theorem d_M_thread_96 : decode prog_13_method_14_code 96 = .ok (.invokevirtual 183, 3) := by decide +kernel
theorem d_M_thread_99 : decode prog_13_method_14_code 99 = .ok (.ifCond .eq 41, 3) := by decide +kernel
theorem d_M_thread_102 : decode prog_13_method_14_code 102 = .ok (.aload_n 0, 1) := by decide +kernel
theorem d_M_thread_103 : decode prog_13_method_14_code 103 = .ok (.getfield 213, 3) := by decide +kernel
theorem d_M_thread_106 : decode prog_13_method_14_code 106 = .ok (.getfield 156, 3) := by decide +kernel
theorem d_M_thread_109 : decode prog_13_method_14_code 109 = .ok (.iconst 3, 1) := by decide +kernel
theorem d_M_thread_110 : decode prog_13_method_14_code 110 = .ok (.if_icmp .eq 30, 3) := by decide +kernel
theorem d_M_thread_113 : decode prog_13_method_14_code 113 = .ok (.aload_n 0, 1) := by decide +kernel
theorem d_M_thread_114 : decode prog_13_method_14_code 114 = .ok (.getfield 213, 3) := by decide +kernel
theorem d_M_thread_117 : decode prog_13_method_14_code 117 = .ok (.aload_n 0, 1) := by decide +kernel
theorem d_M_thread_118 : decode prog_13_method_14_code 118 = .ok (.getfield 9, 3) := by decide +kernel
theorem d_M_thread_121 : decode prog_13_method_14_code 121 = .ok (.aload_n 0, 1) := by decide +kernel
theorem d_M_thread_122 : decode prog_13_method_14_code 122 = .ok (.getfield 72, 3) := by decide +kernel
theorem d_M_thread_125 : decode prog_13_method_14_code 125 = .ok (.aload_n 0, 1) := by decide +kernel
theorem d_M_thread_126 : decode prog_13_method_14_code 126 = .ok (.getfield 94, 3) := by decide +kernel
theorem d_M_thread_129 : decode prog_13_method_14_code 129 = .ok (.aload_n 0, 1) := by decide +kernel
theorem d_M_thread_130 : decode prog_13_method_14_code 130 = .ok (.getfield 72, 3) := by decide +kernel
theorem d_M_thread_133 : decode prog_13_method_14_code 133 = .ok (.isub, 1) := by decide +kernel
theorem d_M_thread_134 : decode prog_13_method_14_code 134 = .ok (.invokevirtual 188, 3) := by decide +kernel
theorem d_M_thread_137 : decode prog_13_method_14_code 137 = .ok (.ifCond .lt 8, 3) := by decide +kernel
theorem d_M_thread_140 : decode prog_13_method_14_code 140 = .ok (.aload_n 0, 1) := by decide +kernel
theorem d_M_thread_141 : decode prog_13_method_14_code 141 = .ok (.invokevirtual 142, 3) := by decide +kernel
theorem d_M_thread_144 : decode prog_13_method_14_code 144 = .ok (.ireturn, 1) := by decide +kernel
theorem d_M_thread_145 : decode prog_13_method_14_code 145 = .ok (.aload_n 0, 1) := by decide +kernel
theorem d_M_thread_146 : decode prog_13_method_14_code 146 = .ok (.getfield 213, 3) := by decide +kernel
theorem d_M_thread_149 : decode prog_13_method_14_code 149 = .ok (.aload_n 0, 1) := by decide +kernel
theorem d_M_thread_150 : decode prog_13_method_14_code 150 = .ok (.getfield 9, 3) := by decide +kernel
theorem d_M_thread_153 : decode prog_13_method_14_code 153 = .ok (.aload_n 0, 1) := by decide +kernel
theorem d_M_thread_154 : decode prog_13_method_14_code 154 = .ok (.getfield 72, 3) := by decide +kernel
theorem d_M_thread_157 : decode prog_13_method_14_code 157 = .ok (.aload_n 0, 1) := by decide +kernel
theorem d_M_thread_158 : decode prog_13_method_14_code 158 = .ok (.getfield 94, 3) := by decide +kernel
theorem d_M_thread_161 : decode prog_13_method_14_code 161 = .ok (.aload_n 0, 1) := by decide +kernel
theorem d_M_thread_162 : decode prog_13_method_14_code 162 = .ok (.getfield 72, 3) := by decide +kernel
theorem d_M_thread_165 : decode prog_13_method_14_code 165 = .ok (.isub, 1) := by decide +kernel
theorem d_M_thread_166 : decode prog_13_method_14_code 166 = .ok (.invokevirtual 192, 3) := by decide +kernel
theorem d_M_thread_169 : decode prog_13_method_14_code 169 = .ok (.aload_n 0, 1) := by decide +kernel
theorem d_M_thread_170 : decode prog_13_method_14_code 170 = .ok (.invokevirtual 146, 3) := by decide +kernel
theorem d_M_thread_173 : decode prog_13_method_14_code 173 = .ok (.aload_n 0, 1) := by decide +kernel
theorem d_M_thread_174 : decode prog_13_method_14_code 174 = .ok (.ldc 203, 2) := by decide +kernel
theorem d_M_thread_176 : decode prog_13_method_14_code 176 = .ok (.invokevirtual 205, 3) := by decide +kernel
theorem d_M_thread_179 : decode prog_13_method_14_code 179 = .ok (.ifCond .ne (-97), 3) := by decide +kernel
theorem d_M_thread_182 : decode prog_13_method_14_code 182 = .ok (.iconst 0, 1) := by decide +kernel
theorem d_M_thread_183 : decode prog_13_method_14_code 183 = .ok (.ireturn, 1) := by decide +kernel
theorem d_M_thread_184 : decode prog_13_method_14_code 184 = .ok (.aload_n 0, 1) := by decide +kernel
theorem d_M_thread_185 : decode prog_13_method_14_code 185 = .ok (.iconst 0, 1) := by decide +kernel
theorem d_M_thread_186 : decode prog_13_method_14_code 186 = .ok (.putfield 174, 3) := by decide +kernel
theorem d_M_thread_189 : decode prog_13_method_14_code 189 = .ok (.aload_n 0, 1) := by decide +kernel
theorem d_M_thread_190 : decode prog_13_method_14_code 190 = .ok (.getfield 23, 3) := by decide +kernel
theorem d_M_thread_193 : decode prog_13_method_14_code 193 = .ok (.aload_n 0, 1) := by decide +kernel
theorem d_M_thread_194 : decode prog_13_method_14_code 194 = .ok (.dup, 1) := by decide +kernel
theorem d_M_thread_195 : decode prog_13_method_14_code 195 = .ok (.getfield 174, 3) := by decide +kernel
