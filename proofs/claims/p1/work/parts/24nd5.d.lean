theorem d_M_thread_198 : decode prog_13_method_14_code 198 = .ok (.dup_x1, 1) := by decide +kernel
theorem d_M_thread_199 : decode prog_13_method_14_code 199 = .ok (.iconst 1, 1) := by decide +kernel
theorem d_M_thread_200 : decode prog_13_method_14_code 200 = .ok (.iadd, 1) := by decide +kernel
theorem d_M_thread_201 : decode prog_13_method_14_code 201 = .ok (.putfield 174, 3) := by decide +kernel
theorem d_M_thread_204 : decode prog_13_method_14_code 204 = .ok (.iconst (-1), 1) := by decide +kernel
theorem d_M_thread_205 : decode prog_13_method_14_code 205 = .ok (.iload_n 1, 1) := by decide +kernel
theorem d_M_thread_206 : decode prog_13_method_14_code 206 = .ok (.isub, 1) := by decide +kernel
theorem d_M_thread_207 : decode prog_13_method_14_code 207 = .ok (.iastore, 1) := by decide +kernel
theorem d_M_thread_208 : decode prog_13_method_14_code 208 = .ok (.aload_n 0, 1) := by decide +kernel
theorem d_M_thread_209 : decode prog_13_method_14_code 209 = .ok (.iconst 0, 1) := by decide +kernel
theorem d_M_thread_210 : decode prog_13_method_14_code 210 = .ok (.iconst 0, 1) := by decide +kernel
theorem d_M_thread_211 : decode prog_13_method_14_code 211 = .ok (.invokevirtual 215, 3) := by decide +kernel
theorem d_M_thread_214 : decode prog_13_method_14_code 214 = .ok (.ifCond .ne 5, 3) := by decide +kernel
theorem d_M_thread_217 : decode prog_13_method_14_code 217 = .ok (.iconst 0, 1) := by decide +kernel
theorem d_M_thread_218 : decode prog_13_method_14_code 218 = .ok (.ireturn, 1) := by decide +kernel
theorem d_M_thread_219 : decode prog_13_method_14_code 219 = .ok (.aload_n 0, 1) := by decide +kernel
theorem d_M_thread_220 : decode prog_13_method_14_code 220 = .ok (.iconst 0, 1) := by decide +kernel
theorem d_M_thread_221 : decode prog_13_method_14_code 221 = .ok (.iconst (-1), 1) := by decide +kernel
theorem d_M_thread_222 : decode prog_13_method_14_code 222 = .ok (.invokevirtual 218, 3) := by decide +kernel
theorem d_M_thread_225 : decode prog_13_method_14_code 225 = .ok (.iconst 1, 1) := by decide +kernel
theorem d_M_thread_226 : decode prog_13_method_14_code 226 = .ok (.ireturn, 1) := by decide +kernel
theorem d_M_read_0 : decode prog_13_method_12_code 0 = .ok (.aload_n 0, 1) := by decide +kernel
theorem d_M_read_1 : decode prog_13_method_12_code 1 = .ok (.aload_n 0, 1) := by decide +kernel
theorem d_M_read_2 : decode prog_13_method_12_code 2 = .ok (.getfield 20, 3) := by decide +kernel
theorem d_M_read_5 : decode prog_13_method_12_code 5 = .ok (.putfield 149, 3) := by decide +kernel
theorem d_M_read_8 : decode prog_13_method_12_code 8 = .ok (.aload_n 0, 1) := by decide +kernel
theorem d_M_read_9 : decode prog_13_method_12_code 9 = .ok (.getfield 149, 3) := by decide +kernel
theorem d_M_read_12 : decode prog_13_method_12_code 12 = .ok (.getfield 152, 3) := by decide +kernel
theorem d_M_read_15 : decode prog_13_method_12_code 15 = .ok (.iconst 0, 1) := by decide +kernel
theorem d_M_read_16 : decode prog_13_method_12_code 16 = .ok (.putfield 156, 3) := by decide +kernel
theorem d_M_read_19 : decode prog_13_method_12_code 19 = .ok (.aload_n 0, 1) := by decide +kernel
theorem d_M_read_20 : decode prog_13_method_12_code 20 = .ok (.getfield 149, 3) := by decide +kernel
theorem d_M_read_23 : decode prog_13_method_12_code 23 = .ok (.getfield 161, 3) := by decide +kernel
theorem d_M_read_26 : decode prog_13_method_12_code 26 = .ok (.iconst 0, 1) := by decide +kernel
theorem d_M_read_27 : decode prog_13_method_12_code 27 = .ok (.putfield 156, 3) := by decide +kernel
theorem d_M_read_30 : decode prog_13_method_12_code 30 = .ok (.aload_n 0, 1) := by decide +kernel
theorem d_M_read_31 : decode prog_13_method_12_code 31 = .ok (.getfield 149, 3) := by decide +kernel
theorem d_M_read_34 : decode prog_13_method_12_code 34 = .ok (.iconst 0, 1) := by decide +kernel
theorem d_M_read_35 : decode prog_13_method_12_code 35 = .ok (.putfield 164, 3) := by decide +kernel
theorem d_M_read_38 : decode prog_13_method_12_code 38 = .ok (.aload_n 0, 1) := by decide +kernel
theorem d_M_read_39 : decode prog_13_method_12_code 39 = .ok (.getfield 149, 3) := by decide +kernel
theorem d_M_read_42 : decode prog_13_method_12_code 42 = .ok (.iconst 0, 1) := by decide +kernel
theorem d_M_read_43 : decode prog_13_method_12_code 43 = .ok (.putfield 167, 3) := by decide +kernel
theorem d_M_read_46 : decode prog_13_method_12_code 46 = .ok (.aload_n 0, 1) := by decide +kernel
theorem d_M_read_47 : decode prog_13_method_12_code 47 = .ok (.getfield 149, 3) := by decide +kernel
theorem d_M_read_50 : decode prog_13_method_12_code 50 = .ok (.iconst 0, 1) := by decide +kernel
theorem d_M_read_51 : decode prog_13_method_12_code 51 = .ok (.putfield 170, 3) := by decide +kernel
theorem d_M_read_54 : decode prog_13_method_12_code 54 = .ok (.aload_n 0, 1) := by decide +kernel
theorem d_M_read_55 : decode prog_13_method_12_code 55 = .ok (.aload_n 0, 1) := by decide +kernel
theorem d_M_read_56 : decode prog_13_method_12_code 56 = .ok (.getfield 58, 3) := by decide +kernel
theorem d_M_read_59 : decode prog_13_method_12_code 59 = .ok (.putfield 69, 3) := by decide +kernel
theorem d_M_read_62 : decode prog_13_method_12_code 62 = .ok (.aload_n 0, 1) := by decide +kernel
theorem d_M_read_63 : decode prog_13_method_12_code 63 = .ok (.iconst 0, 1) := by decide +kernel
theorem d_M_read_64 : decode prog_13_method_12_code 64 = .ok (.putfield 58, 3) := by decide +kernel
theorem d_M_read_67 : decode prog_13_method_12_code 67 = .ok (.aload_n 0, 1) := by decide +kernel
theorem d_M_read_68 : decode prog_13_method_12_code 68 = .ok (.iconst 0, 1) := by decide +kernel
theorem d_M_read_69 : decode prog_13_method_12_code 69 = .ok (.putfield 66, 3) := by decide +kernel
theorem d_M_read_72 : decode prog_13_method_12_code 72 = .ok (.aload_n 0, 1) := by decide +kernel
theorem d_M_read_73 : decode prog_13_method_12_code 73 = .ok (.iconst (-1), 1) := by decide +kernel
theorem d_M_read_74 : decode prog_13_method_12_code 74 = .ok (.putfield 139, 3) := by decide +kernel
theorem d_M_read_77 : decode prog_13_method_12_code 77 = .ok (.aload_n 0, 1) := by decide +kernel
theorem d_M_read_78 : decode prog_13_method_12_code 78 = .ok (.iconst 0, 1) := by decide +kernel
theorem d_M_read_79 : decode prog_13_method_12_code 79 = .ok (.putfield 171, 3) := by decide +kernel
theorem d_M_read_82 : decode prog_13_method_12_code 82 = .ok (.aload_n 0, 1) := by decide +kernel
theorem d_M_read_83 : decode prog_13_method_12_code 83 = .ok (.iconst 0, 1) := by decide +kernel
theorem d_M_read_84 : decode prog_13_method_12_code 84 = .ok (.putfield 174, 3) := by decide +kernel
theorem d_M_read_87 : decode prog_13_method_12_code 87 = .ok (.aload_n 0, 1) := by decide +kernel
theorem d_M_read_88 : decode prog_13_method_12_code 88 = .ok (.invokevirtual 146, 3) := by decide +kernel
theorem d_M_read_91 : decode prog_13_method_12_code 91 = .ok (.aload_n 0, 1) := by decide +kernel
theorem d_M_read_92 : decode prog_13_method_12_code 92 = .ok (.ldc 107, 2) := by decide +kernel
theorem d_M_read_94 : decode prog_13_method_12_code 94 = .ok (.invokevirtual 109, 3) := by decide +kernel
theorem d_M_read_97 : decode prog_13_method_12_code 97 = .ok (.ifCond .ne 12, 3) := by decide +kernel
theorem d_M_read_100 : decode prog_13_method_12_code 100 = .ok (.aload_n 0, 1) := by decide +kernel
theorem d_M_read_101 : decode prog_13_method_12_code 101 = .ok (.ldc 113, 2) := by decide +kernel
theorem d_M_read_103 : decode prog_13_method_12_code 103 = .ok (.invokevirtual 109, 3) := by decide +kernel
theorem d_M_read_106 : decode prog_13_method_12_code 106 = .ok (.ifCond .eq 18, 3) := by decide +kernel
theorem d_M_read_109 : decode prog_13_method_12_code 109 = .ok (.aload_n 0, 1) := by decide +kernel
theorem d_M_read_110 : decode prog_13_method_12_code 110 = .ok (.aload_n 0, 1) := by decide +kernel
theorem d_M_read_111 : decode prog_13_method_12_code 111 = .ok (.ldc 107, 2) := by decide +kernel
theorem d_M_read_113 : decode prog_13_method_12_code 113 = .ok (.invokevirtual 109, 3) := by decide +kernel
theorem d_M_read_116 : decode prog_13_method_12_code 116 = .ok (.invokevirtual 177, 3) := by decide +kernel
theorem d_M_read_119 : decode prog_13_method_12_code 119 = .ok (.ifCond .ne (-28), 3) := by decide +kernel
theorem d_M_read_122 : decode prog_13_method_12_code 122 = .ok (.iconst 0, 1) := by decide +kernel
theorem d_M_read_123 : decode prog_13_method_12_code 123 = .ok (.ireturn, 1) := by decide +kernel
theorem d_M_read_124 : decode prog_13_method_12_code 124 = .ok (.aload_n 0, 1) := by decide +kernel
theorem d_M_read_125 : decode prog_13_method_12_code 125 = .ok (.invokevirtual 181, 3) := by decide +kernel
theorem d_M_read_128 : decode prog_13_method_12_code 128 = .ok (.ifCond .ne 5, 3) := by decide +kernel
theorem d_M_read_131 : decode prog_13_method_12_code 131 = .ok (.iconst 0, 1) := by decide +kernel
theorem d_M_read_132 : decode prog_13_method_12_code 132 = .ok (.ireturn, 1) := by decide +kernel
theorem d_M_read_133 : decode prog_13_method_12_code 133 = .ok (.aload_n 0, 1) := by decide +kernel
theorem d_M_read_134 : decode prog_13_method_12_code 134 = .ok (.getfield 75, 3) := by decide +kernel
theorem d_M_read_137 : decode prog_13_method_12_code 137 = .ok (.ifCond .ne (-13), 3) := by decide +kernel
theorem d_M_read_140 : decode prog_13_method_12_code 140 = .ok (.iconst 1, 1) := by decide +kernel
theorem d_M_read_141 : decode prog_13_method_12_code 141 = .ok (.ireturn, 1) := by decide +kernel
theorem d_M_check_0 : decode prog_13_method_38_code 0 = .ok (.aload_n 0, 1) := by decide +kernel
theorem d_M_check_1 : decode prog_13_method_38_code 1 = .ok (.invokevirtual 341, 3) := by decide +kernel
theorem d_M_check_4 : decode prog_13_method_38_code 4 = .ok (.ifCond .ne 8, 3) := by decide +kernel
theorem d_M_check_7 : decode prog_13_method_38_code 7 = .ok (.aload_n 0, 1) := by decide +kernel
theorem d_M_check_8 : decode prog_13_method_38_code 8 = .ok (.getfield 139, 3) := by decide +kernel
theorem d_M_check_11 : decode prog_13_method_38_code 11 = .ok (.ireturn, 1) := by decide +kernel
theorem d_M_check_12 : decode prog_13_method_38_code 12 = .ok (.aload_n 0, 1) := by decide +kernel
theorem d_M_check_13 : decode prog_13_method_38_code 13 = .ok (.getfield 16, 3) := by decide +kernel
theorem d_M_check_16 : decode prog_13_method_38_code 16 = .ok (.astore_n 1, 1) := by decide +kernel
theorem d_M_check_17 : decode prog_13_method_38_code 17 = .ok (.aload_n 0, 1) := by decide +kernel
theorem d_M_check_18 : decode prog_13_method_38_code 18 = .ok (.aload_n 0, 1) := by decide +kernel
theorem d_M_check_19 : decode prog_13_method_38_code 19 = .ok (.getfield 20, 3) := by decide +kernel
theorem d_M_check_22 : decode prog_13_method_38_code 22 = .ok (.putfield 16, 3) := by decide +kernel
theorem d_M_check_25 : decode prog_13_method_38_code 25 = .ok (.aload_n 0, 1) := by decide +kernel
theorem d_M_check_26 : decode prog_13_method_38_code 26 = .ok (.aload_n 1, 1) := by decide +kernel
theorem d_M_check_27 : decode prog_13_method_38_code 27 = .ok (.putfield 20, 3) := by decide +kernel
