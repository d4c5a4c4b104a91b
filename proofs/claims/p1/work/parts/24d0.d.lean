theorem d_M_atom_0 : decode prog_13_method_26_code 0 = .ok (.aload_n 0, 1) := by decide +kernel
theorem d_M_atom_1 : decode prog_13_method_26_code 1 = .ok (.ldc 234, 2) := by decide +kernel
theorem d_M_atom_3 : decode prog_13_method_26_code 3 = .ok (.invokevirtual 109, 3) := by decide +kernel
theorem d_M_atom_6 : decode prog_13_method_26_code 6 = .ok (.ifCond .ne 22, 3) := by decide +kernel
theorem d_M_atom_9 : decode prog_13_method_26_code 9 = .ok (.aload_n 0, 1) := by decide +kernel
theorem d_M_atom_10 : decode prog_13_method_26_code 10 = .ok (.ldc 201, 2) := by decide +kernel
theorem d_M_atom_12 : decode prog_13_method_26_code 12 = .ok (.invokevirtual 109, 3) := by decide +kernel
theorem d_M_atom_15 : decode prog_13_method_26_code 15 = .ok (.ifCond .ne 13, 3) := by decide +kernel
theorem d_M_atom_18 : decode prog_13_method_26_code 18 = .ok (.aload_n 0, 1) := by decide +kernel
theorem d_M_atom_19 : decode prog_13_method_26_code 19 = .ok (.ldc_w 294, 3) := by decide +kernel
theorem d_M_atom_22 : decode prog_13_method_26_code 22 = .ok (.invokevirtual 109, 3) := by decide +kernel
theorem d_M_atom_25 : decode prog_13_method_26_code 25 = .ok (.ifCond .eq 99, 3) := by decide +kernel
theorem d_M_atom_28 : decode prog_13_method_26_code 28 = .ok (.iload_n 1, 1) := by decide +kernel
theorem d_M_atom_29 : decode prog_13_method_26_code 29 = .ok (.bipush 8, 2) := by decide +kernel
theorem d_M_atom_31 : decode prog_13_method_26_code 31 = .ok (.if_icmp .ne 8, 3) := by decide +kernel
theorem d_M_atom_34 : decode prog_13_method_26_code 34 = .ok (.aload_n 0, 1) := by decide +kernel
theorem d_M_atom_35 : decode prog_13_method_26_code 35 = .ok (.invokevirtual 142, 3) := by decide +kernel
theorem d_M_atom_38 : decode prog_13_method_26_code 38 = .ok (.ireturn, 1) := by decide +kernel
theorem d_M_atom_39 : decode prog_13_method_26_code 39 = .ok (.aload_n 0, 1) := by decide +kernel
theorem d_M_atom_40 : decode prog_13_method_26_code 40 = .ok (.ldc 234, 2) := by decide +kernel
theorem d_M_atom_42 : decode prog_13_method_26_code 42 = .ok (.invokevirtual 109, 3) := by decide +kernel
theorem d_M_atom_45 : decode prog_13_method_26_code 45 = .ok (.ifCond .eq 8, 3) := by decide +kernel
theorem d_M_atom_48 : decode prog_13_method_26_code 48 = .ok (.bipush 16, 2) := by decide +kernel
theorem d_M_atom_50 : decode prog_13_method_26_code 50 = .ok (.goto 19, 3) := by decide +kernel
theorem d_M_atom_53 : decode prog_13_method_26_code 53 = .ok (.aload_n 0, 1) := by decide +kernel
theorem d_M_atom_54 : decode prog_13_method_26_code 54 = .ok (.ldc 201, 2) := by decide +kernel
theorem d_M_atom_56 : decode prog_13_method_26_code 56 = .ok (.invokevirtual 109, 3) := by decide +kernel
theorem d_M_atom_59 : decode prog_13_method_26_code 59 = .ok (.ifCond .eq 8, 3) := by decide +kernel
theorem d_M_atom_62 : decode prog_13_method_26_code 62 = .ok (.bipush 6, 2) := by decide +kernel
theorem d_M_atom_64 : decode prog_13_method_26_code 64 = .ok (.goto 5, 3) := by decide +kernel
theorem d_M_atom_67 : decode prog_13_method_26_code 67 = .ok (.bipush 7, 2) := by decide +kernel
theorem d_M_atom_69 : decode prog_13_method_26_code 69 = .ok (.istore_n 2, 1) := by decide +kernel
theorem d_M_atom_70 : decode prog_13_method_26_code 70 = .ok (.aload_n 0, 1) := by decide +kernel
theorem d_M_atom_71 : decode prog_13_method_26_code 71 = .ok (.invokevirtual 146, 3) := by decide +kernel
theorem d_M_atom_74 : decode prog_13_method_26_code 74 = .ok (.iload_n 2, 1) := by decide +kernel
theorem d_M_atom_75 : decode prog_13_method_26_code 75 = .ok (.bipush 16, 2) := by decide +kernel
theorem d_M_atom_77 : decode prog_13_method_26_code 77 = .ok (.if_icmp .ne 28, 3) := by decide +kernel
theorem d_M_atom_80 : decode prog_13_method_26_code 80 = .ok (.aload_n 0, 1) := by decide +kernel
theorem d_M_atom_81 : decode prog_13_method_26_code 81 = .ok (.iload_n 1, 1) := by decide +kernel
theorem d_M_atom_82 : decode prog_13_method_26_code 82 = .ok (.iconst 1, 1) := by decide +kernel
theorem d_M_atom_83 : decode prog_13_method_26_code 83 = .ok (.iadd, 1) := by decide +kernel
theorem d_M_atom_84 : decode prog_13_method_26_code 84 = .ok (.invokevirtual 252, 3) := by decide +kernel
theorem d_M_atom_87 : decode prog_13_method_26_code 87 = .ok (.ifCond .eq 16, 3) := by decide +kernel
theorem d_M_atom_90 : decode prog_13_method_26_code 90 = .ok (.aload_n 0, 1) := by decide +kernel
theorem d_M_atom_91 : decode prog_13_method_26_code 91 = .ok (.ldc 239, 2) := by decide +kernel
theorem d_M_atom_93 : decode prog_13_method_26_code 93 = .ok (.invokevirtual 205, 3) := by decide +kernel
theorem d_M_atom_96 : decode prog_13_method_26_code 96 = .ok (.ifCond .eq 7, 3) := by decide +kernel
theorem d_M_atom_99 : decode prog_13_method_26_code 99 = .ok (.iconst 1, 1) := by decide +kernel
theorem d_M_atom_100 : decode prog_13_method_26_code 100 = .ok (.goto 4, 3) := by decide +kernel
theorem d_M_atom_103 : decode prog_13_method_26_code 103 = .ok (.iconst 0, 1) := by decide +kernel
theorem d_M_atom_104 : decode prog_13_method_26_code 104 = .ok (.ireturn, 1) := by decide +kernel
theorem d_M_atom_105 : decode prog_13_method_26_code 105 = .ok (.aload_n 0, 1) := by decide +kernel
theorem d_M_atom_106 : decode prog_13_method_26_code 106 = .ok (.iload_n 1, 1) := by decide +kernel
theorem d_M_atom_107 : decode prog_13_method_26_code 107 = .ok (.iconst 1, 1) := by decide +kernel
theorem d_M_atom_108 : decode prog_13_method_26_code 108 = .ok (.iadd, 1) := by decide +kernel
theorem d_M_atom_109 : decode prog_13_method_26_code 109 = .ok (.invokevirtual 289, 3) := by decide +kernel
theorem d_M_atom_112 : decode prog_13_method_26_code 112 = .ok (.ifCond .ne 5, 3) := by decide +kernel
theorem d_M_atom_115 : decode prog_13_method_26_code 115 = .ok (.iconst 0, 1) := by decide +kernel
theorem d_M_atom_116 : decode prog_13_method_26_code 116 = .ok (.ireturn, 1) := by decide +kernel
theorem d_M_atom_117 : decode prog_13_method_26_code 117 = .ok (.aload_n 0, 1) := by decide +kernel
theorem d_M_atom_118 : decode prog_13_method_26_code 118 = .ok (.iload_n 2, 1) := by decide +kernel
theorem d_M_atom_119 : decode prog_13_method_26_code 119 = .ok (.invokevirtual 255, 3) := by decide +kernel
theorem d_M_atom_122 : decode prog_13_method_26_code 122 = .ok (.iconst 1, 1) := by decide +kernel
theorem d_M_atom_123 : decode prog_13_method_26_code 123 = .ok (.ireturn, 1) := by decide +kernel
theorem d_M_atom_124 : decode prog_13_method_26_code 124 = .ok (.aload_n 0, 1) := by decide +kernel
theorem d_M_atom_125 : decode prog_13_method_26_code 125 = .ok (.getfield 75, 3) := by decide +kernel
theorem d_M_atom_128 : decode prog_13_method_26_code 128 = .ok (.iconst 2, 1) := by decide +kernel
theorem d_M_atom_129 : decode prog_13_method_26_code 129 = .ok (.if_icmp .eq 10, 3) := by decide +kernel
theorem d_M_atom_132 : decode prog_13_method_26_code 132 = .ok (.aload_n 0, 1) := by decide +kernel
theorem d_M_atom_133 : decode prog_13_method_26_code 133 = .ok (.invokevirtual 183, 3) := by decide +kernel
theorem d_M_atom_136 : decode prog_13_method_26_code 136 = .ok (.ifCond .eq 13, 3) := by decide +kernel
theorem d_M_atom_139 : decode prog_13_method_26_code 139 = .ok (.aload_n 0, 1) := by decide +kernel
theorem d_M_atom_140 : decode prog_13_method_26_code 140 = .ok (.getfield 171, 3) := by decide +kernel
theorem d_M_atom_143 : decode prog_13_method_26_code 143 = .ok (.sipush 150, 3) := by decide +kernel
theorem d_M_atom_146 : decode prog_13_method_26_code 146 = .ok (.if_icmp .ne 8, 3) := by decide +kernel
theorem d_M_atom_149 : decode prog_13_method_26_code 149 = .ok (.aload_n 0, 1) := by decide +kernel
theorem d_M_atom_150 : decode prog_13_method_26_code 150 = .ok (.invokevirtual 142, 3) := by decide +kernel
theorem d_M_atom_153 : decode prog_13_method_26_code 153 = .ok (.ireturn, 1) := by decide +kernel
theorem d_M_atom_154 : decode prog_13_method_26_code 154 = .ok (.aload_n 0, 1) := by decide +kernel
theorem d_M_atom_155 : decode prog_13_method_26_code 155 = .ok (.getfield 75, 3) := by decide +kernel
theorem d_M_atom_158 : decode prog_13_method_26_code 158 = .ok (.iconst 2, 1) := by decide +kernel
theorem d_M_atom_159 : decode prog_13_method_26_code 159 = .ok (.if_icmp .ne 19, 3) := by decide +kernel
theorem d_M_atom_162 : decode prog_13_method_26_code 162 = .ok (.aload_n 0, 1) := by decide +kernel
theorem d_M_atom_163 : decode prog_13_method_26_code 163 = .ok (.iconst 0, 1) := by decide +kernel
theorem d_M_atom_164 : decode prog_13_method_26_code 164 = .ok (.invokevirtual 255, 3) := by decide +kernel
theorem d_M_atom_167 : decode prog_13_method_26_code 167 = .ok (.aload_n 0, 1) := by decide +kernel
theorem d_M_atom_168 : decode prog_13_method_26_code 168 = .ok (.aload_n 0, 1) := by decide +kernel
theorem d_M_atom_169 : decode prog_13_method_26_code 169 = .ok (.getfield 85, 3) := by decide +kernel
theorem d_M_atom_172 : decode prog_13_method_26_code 172 = .ok (.invokevirtual 255, 3) := by decide +kernel
theorem d_M_atom_175 : decode prog_13_method_26_code 175 = .ok (.goto 95, 3) := by decide +kernel
theorem d_M_atom_178 : decode prog_13_method_26_code 178 = .ok (.aload_n 0, 1) := by decide +kernel
theorem d_M_atom_179 : decode prog_13_method_26_code 179 = .ok (.getfield 213, 3) := by decide +kernel
theorem d_M_atom_182 : decode prog_13_method_26_code 182 = .ok (.aload_n 0, 1) := by decide +kernel
theorem d_M_atom_183 : decode prog_13_method_26_code 183 = .ok (.getfield 9, 3) := by decide +kernel
theorem d_M_atom_186 : decode prog_13_method_26_code 186 = .ok (.aload_n 0, 1) := by decide +kernel
theorem d_M_atom_187 : decode prog_13_method_26_code 187 = .ok (.getfield 72, 3) := by decide +kernel
theorem d_M_atom_190 : decode prog_13_method_26_code 190 = .ok (.aload_n 0, 1) := by decide +kernel
theorem d_M_atom_191 : decode prog_13_method_26_code 191 = .ok (.getfield 94, 3) := by decide +kernel
theorem d_M_atom_194 : decode prog_13_method_26_code 194 = .ok (.aload_n 0, 1) := by decide +kernel
theorem d_M_atom_195 : decode prog_13_method_26_code 195 = .ok (.getfield 72, 3) := by decide +kernel
theorem d_M_atom_198 : decode prog_13_method_26_code 198 = .ok (.isub, 1) := by decide +kernel
theorem d_M_atom_199 : decode prog_13_method_26_code 199 = .ok (.invokevirtual 188, 3) := by decide +kernel
theorem d_M_atom_202 : decode prog_13_method_26_code 202 = .ok (.istore_n 2, 1) := by decide +kernel
theorem d_M_atom_203 : decode prog_13_method_26_code 203 = .ok (.aload_n 0, 1) := by decide +kernel
theorem d_M_atom_204 : decode prog_13_method_26_code 204 = .ok (.getfield 149, 3) := by decide +kernel
theorem d_M_atom_207 : decode prog_13_method_26_code 207 = .ok (.getfield 152, 3) := by decide +kernel
theorem d_M_atom_210 : decode prog_13_method_26_code 210 = .ok (.aload_n 0, 1) := by decide +kernel
theorem d_M_atom_211 : decode prog_13_method_26_code 211 = .ok (.getfield 9, 3) := by decide +kernel
theorem d_M_atom_214 : decode prog_13_method_26_code 214 = .ok (.aload_n 0, 1) := by decide +kernel
theorem d_M_atom_215 : decode prog_13_method_26_code 215 = .ok (.getfield 72, 3) := by decide +kernel
