theorem d_M_statements_0 : decode prog_13_method_16_code 0 = .ok (.aload_n 0, 1) := by decide +kernel
theorem d_M_statements_1 : decode prog_13_method_16_code 1 = .ok (.ldc 227, 2) := by decide +kernel
theorem d_M_statements_3 : decode prog_13_method_16_code 3 = .ok (.invokevirtual 109, 3) := by decide +kernel
theorem d_M_statements_6 : decode prog_13_method_16_code 6 = .ok (.ifCond .ne 164, 3) := by decide +kernel
theorem d_M_statements_9 : decode prog_13_method_16_code 9 = .ok (.aload_n 0, 1) := by decide +kernel
theorem d_M_statements_10 : decode prog_13_method_16_code 10 = .ok (.getfield 149, 3) := by decide +kernel
theorem d_M_statements_13 : decode prog_13_method_16_code 13 = .ok (.getfield 167, 3) := by decide +kernel
theorem d_M_statements_16 : decode prog_13_method_16_code 16 = .ok (.bipush 50, 2) := by decide +kernel
theorem d_M_statements_18 : decode prog_13_method_16_code 18 = .ok (.if_icmp .eq 10, 3) := by decide +kernel
theorem d_M_statements_21 : decode prog_13_method_16_code 21 = .ok (.aload_n 0, 1) := by decide +kernel
theorem d_M_statements_22 : decode prog_13_method_16_code 22 = .ok (.getfield 75, 3) := by decide +kernel
theorem d_M_statements_25 : decode prog_13_method_16_code 25 = .ok (.ifCond .ne 8, 3) := by decide +kernel
theorem d_M_statements_28 : decode prog_13_method_16_code 28 = .ok (.aload_n 0, 1) := by decide +kernel
theorem d_M_statements_29 : decode prog_13_method_16_code 29 = .ok (.invokevirtual 142, 3) := by decide +kernel
theorem d_M_statements_32 : decode prog_13_method_16_code 32 = .ok (.ireturn, 1) := by decide +kernel
theorem d_M_statements_33 : decode prog_13_method_16_code 33 = .ok (.aload_n 0, 1) := by decide +kernel
theorem d_M_statements_34 : decode prog_13_method_16_code 34 = .ok (.getfield 149, 3) := by decide +kernel
theorem d_M_statements_37 : decode prog_13_method_16_code 37 = .ok (.getfield 167, 3) := by decide +kernel
theorem d_M_statements_40 : decode prog_13_method_16_code 40 = .ok (.istore_n 3, 1) := by decide +kernel
theorem d_M_statements_41 : decode prog_13_method_16_code 41 = .ok (.aload_n 0, 1) := by decide +kernel
theorem d_M_statements_42 : decode prog_13_method_16_code 42 = .ok (.invokevirtual 183, 3) := by decide +kernel
theorem d_M_statements_45 : decode prog_13_method_16_code 45 = .ok (.ifCond .ne 75, 3) := by decide +kernel
theorem d_M_statements_48 : decode prog_13_method_16_code 48 = .ok (.aload_n 0, 1) := by decide +kernel
theorem d_M_statements_49 : decode prog_13_method_16_code 49 = .ok (.ldc 119, 2) := by decide +kernel
theorem d_M_statements_51 : decode prog_13_method_16_code 51 = .ok (.invokevirtual 109, 3) := by decide +kernel
theorem d_M_statements_54 : decode prog_13_method_16_code 54 = .ok (.ifCond .ne 66, 3) := by decide +kernel
theorem d_M_statements_57 : decode prog_13_method_16_code 57 = .ok (.aload_n 0, 1) := by decide +kernel
theorem d_M_statements_58 : decode prog_13_method_16_code 58 = .ok (.ldc 121, 2) := by decide +kernel
theorem d_M_statements_60 : decode prog_13_method_16_code 60 = .ok (.invokevirtual 109, 3) := by decide +kernel
theorem d_M_statements_63 : decode prog_13_method_16_code 63 = .ok (.ifCond .ne 57, 3) := by decide +kernel
theorem d_M_statements_66 : decode prog_13_method_16_code 66 = .ok (.aload_n 0, 1) := by decide +kernel
theorem d_M_statements_67 : decode prog_13_method_16_code 67 = .ok (.ldc 123, 2) := by decide +kernel
theorem d_M_statements_69 : decode prog_13_method_16_code 69 = .ok (.invokevirtual 109, 3) := by decide +kernel
theorem d_M_statements_72 : decode prog_13_method_16_code 72 = .ok (.ifCond .ne 48, 3) := by decide +kernel
theorem d_M_statements_75 : decode prog_13_method_16_code 75 = .ok (.aload_n 0, 1) := by decide +kernel
theorem d_M_statements_76 : decode prog_13_method_16_code 76 = .ok (.ldc 125, 2) := by decide +kernel
theorem d_M_statements_78 : decode prog_13_method_16_code 78 = .ok (.invokevirtual 109, 3) := by decide +kernel
theorem d_M_statements_81 : decode prog_13_method_16_code 81 = .ok (.ifCond .ne 39, 3) := by decide +kernel
theorem d_M_statements_84 : decode prog_13_method_16_code 84 = .ok (.aload_n 0, 1) := by decide +kernel
theorem d_M_statements_85 : decode prog_13_method_16_code 85 = .ok (.ldc 129, 2) := by decide +kernel
theorem d_M_statements_87 : decode prog_13_method_16_code 87 = .ok (.invokevirtual 109, 3) := by decide +kernel
theorem d_M_statements_90 : decode prog_13_method_16_code 90 = .ok (.ifCond .ne 30, 3) := by decide +kernel
theorem d_M_statements_93 : decode prog_13_method_16_code 93 = .ok (.aload_n 0, 1) := by decide +kernel
theorem d_M_statements_94 : decode prog_13_method_16_code 94 = .ok (.ldc 131, 2) := by decide +kernel
theorem d_M_statements_96 : decode prog_13_method_16_code 96 = .ok (.invokevirtual 109, 3) := by decide +kernel
theorem d_M_statements_99 : decode prog_13_method_16_code 99 = .ok (.ifCond .ne 21, 3) := by decide +kernel
theorem d_M_statements_102 : decode prog_13_method_16_code 102 = .ok (.aload_n 0, 1) := by decide +kernel
theorem d_M_statements_103 : decode prog_13_method_16_code 103 = .ok (.ldc 135, 2) := by decide +kernel
theorem d_M_statements_105 : decode prog_13_method_16_code 105 = .ok (.invokevirtual 109, 3) := by decide +kernel
theorem d_M_statements_108 : decode prog_13_method_16_code 108 = .ok (.ifCond .ne 12, 3) := by decide +kernel
theorem d_M_statements_111 : decode prog_13_method_16_code 111 = .ok (.aload_n 0, 1) := by decide +kernel
theorem d_M_statements_112 : decode prog_13_method_16_code 112 = .ok (.ldc 137, 2) := by decide +kernel
theorem d_M_statements_114 : decode prog_13_method_16_code 114 = .ok (.invokevirtual 109, 3) := by decide +kernel
theorem d_M_statements_117 : decode prog_13_method_16_code 117 = .ok (.ifCond .eq 7, 3) := by decide +kernel
theorem d_M_statements_120 : decode prog_13_method_16_code 120 = .ok (.iconst 1, 1) := by decide +kernel
theorem d_M_statements_121 : decode prog_13_method_16_code 121 = .ok (.goto 4, 3) := by decide +kernel
theorem d_M_statements_124 : decode prog_13_method_16_code 124 = .ok (.iconst 0, 1) := by decide +kernel
theorem d_M_statements_125 : decode prog_13_method_16_code 125 = .ok (.istore 4, 2) := by decide +kernel
theorem d_M_statements_127 : decode prog_13_method_16_code 127 = .ok (.iload 4, 2) := by decide +kernel
theorem d_M_statements_129 : decode prog_13_method_16_code 129 = .ok (.ifCond .ne 8, 3) := by decide +kernel
theorem d_M_statements_132 : decode prog_13_method_16_code 132 = .ok (.aload_n 0, 1) := by decide +kernel
theorem d_M_statements_133 : decode prog_13_method_16_code 133 = .ok (.invokevirtual 142, 3) := by decide +kernel
theorem d_M_statements_136 : decode prog_13_method_16_code 136 = .ok (.ireturn, 1) := by decide +kernel
theorem d_M_statements_137 : decode prog_13_method_16_code 137 = .ok (.aload_n 0, 1) := by decide +kernel
theorem d_M_statements_138 : decode prog_13_method_16_code 138 = .ok (.getfield 149, 3) := by decide +kernel
theorem d_M_statements_141 : decode prog_13_method_16_code 141 = .ok (.dup, 1) := by decide +kernel
theorem d_M_statements_142 : decode prog_13_method_16_code 142 = .ok (.getfield 167, 3) := by decide +kernel
theorem d_M_statements_145 : decode prog_13_method_16_code 145 = .ok (.iconst 1, 1) := by decide +kernel
theorem d_M_statements_146 : decode prog_13_method_16_code 146 = .ok (.iadd, 1) := by decide +kernel
theorem d_M_statements_147 : decode prog_13_method_16_code 147 = .ok (.putfield 167, 3) := by decide +kernel
theorem d_M_statements_150 : decode prog_13_method_16_code 150 = .ok (.aload_n 0, 1) := by decide +kernel
theorem d_M_statements_151 : decode prog_13_method_16_code 151 = .ok (.iload_n 1, 1) := by decide +kernel
theorem d_M_statements_152 : decode prog_13_method_16_code 152 = .ok (.iload_n 3, 1) := by decide +kernel
theorem d_M_statements_153 : decode prog_13_method_16_code 153 = .ok (.invokevirtual 218, 3) := by decide +kernel
theorem d_M_statements_156 : decode prog_13_method_16_code 156 = .ok (.aload_n 0, 1) := by decide +kernel
theorem d_M_statements_157 : decode prog_13_method_16_code 157 = .ok (.iload_n 3, 1) := by decide +kernel
theorem d_M_statements_158 : decode prog_13_method_16_code 158 = .ok (.iload_n 2, 1) := by decide +kernel
theorem d_M_statements_159 : decode prog_13_method_16_code 159 = .ok (.invokevirtual 229, 3) := by decide +kernel
theorem d_M_statements_162 : decode prog_13_method_16_code 162 = .ok (.ifCond .ne 5, 3) := by decide +kernel
theorem d_M_statements_165 : decode prog_13_method_16_code 165 = .ok (.iconst 0, 1) := by decide +kernel
theorem d_M_statements_166 : decode prog_13_method_16_code 166 = .ok (.ireturn, 1) := by decide +kernel
theorem d_M_statements_167 : decode prog_13_method_16_code 167 = .ok (.goto (-167), 3) := by decide +kernel
theorem d_M_statements_170 : decode prog_13_method_16_code 170 = .ok (.aload_n 0, 1) := by decide +kernel
theorem d_M_statements_171 : decode prog_13_method_16_code 171 = .ok (.invokevirtual 146, 3) := by decide +kernel
theorem d_M_statements_174 : decode prog_13_method_16_code 174 = .ok (.iconst 1, 1) := by decide +kernel
theorem d_M_statements_175 : decode prog_13_method_16_code 175 = .ok (.ireturn, 1) := by decide +kernel
theorem d_M_block_0 : decode prog_13_method_17_code 0 = .ok (.aload_n 0, 1) := by decide +kernel
theorem d_M_block_1 : decode prog_13_method_17_code 1 = .ok (.ldc 207, 2) := by decide +kernel
theorem d_M_block_3 : decode prog_13_method_17_code 3 = .ok (.invokevirtual 109, 3) := by decide +kernel
theorem d_M_block_6 : decode prog_13_method_17_code 6 = .ok (.ifCond .eq 9, 3) := by decide +kernel
theorem d_M_block_9 : decode prog_13_method_17_code 9 = .ok (.iload_n 1, 1) := by decide +kernel
theorem d_M_block_10 : decode prog_13_method_17_code 10 = .ok (.bipush 6, 2) := by decide +kernel
theorem d_M_block_12 : decode prog_13_method_17_code 12 = .ok (.if_icmp .ne 8, 3) := by decide +kernel
theorem d_M_block_15 : decode prog_13_method_17_code 15 = .ok (.aload_n 0, 1) := by decide +kernel
theorem d_M_block_16 : decode prog_13_method_17_code 16 = .ok (.invokevirtual 142, 3) := by decide +kernel
theorem d_M_block_19 : decode prog_13_method_17_code 19 = .ok (.ireturn, 1) := by decide +kernel
theorem d_M_block_20 : decode prog_13_method_17_code 20 = .ok (.aload_n 0, 1) := by decide +kernel
theorem d_M_block_21 : decode prog_13_method_17_code 21 = .ok (.getfield 174, 3) := by decide +kernel
theorem d_M_block_24 : decode prog_13_method_17_code 24 = .ok (.iconst 1, 1) := by decide +kernel
theorem d_M_block_25 : decode prog_13_method_17_code 25 = .ok (.isub, 1) := by decide +kernel
theorem d_M_block_26 : decode prog_13_method_17_code 26 = .ok (.istore_n 2, 1) := by decide +kernel
theorem d_M_block_27 : decode prog_13_method_17_code 27 = .ok (.aload_n 0, 1) := by decide +kernel
theorem d_M_block_28 : decode prog_13_method_17_code 28 = .ok (.invokevirtual 146, 3) := by decide +kernel
theorem d_M_block_31 : decode prog_13_method_17_code 31 = .ok (.aload_n 0, 1) := by decide +kernel
theorem d_M_block_32 : decode prog_13_method_17_code 32 = .ok (.iload_n 2, 1) := by decide +kernel
theorem d_M_block_33 : decode prog_13_method_17_code 33 = .ok (.iload_n 1, 1) := by decide +kernel
theorem d_M_block_34 : decode prog_13_method_17_code 34 = .ok (.iconst 1, 1) := by decide +kernel
theorem d_M_block_35 : decode prog_13_method_17_code 35 = .ok (.iadd, 1) := by decide +kernel
theorem d_M_block_36 : decode prog_13_method_17_code 36 = .ok (.invokevirtual 215, 3) := by decide +kernel
theorem d_M_block_39 : decode prog_13_method_17_code 39 = .ok (.ireturn, 1) := by decide +kernel
