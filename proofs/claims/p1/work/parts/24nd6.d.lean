theorem d_M_check_30 : decode prog_13_method_38_code 30 = .ok (.aload_n 0, 1) := by decide +kernel
theorem d_M_check_31 : decode prog_13_method_38_code 31 = .ok (.iconst 1, 1) := by decide +kernel
theorem d_M_check_32 : decode prog_13_method_38_code 32 = .ok (.putfield 344, 3) := by decide +kernel
theorem d_M_check_35 : decode prog_13_method_38_code 35 = .ok (.aload_n 0, 1) := by decide +kernel
theorem d_M_check_36 : decode prog_13_method_38_code 36 = .ok (.iconst 0, 1) := by decide +kernel
theorem d_M_check_37 : decode prog_13_method_38_code 37 = .ok (.putfield 304, 3) := by decide +kernel
theorem d_M_check_40 : decode prog_13_method_38_code 40 = .ok (.aload_n 0, 1) := by decide +kernel
theorem d_M_check_41 : decode prog_13_method_38_code 41 = .ok (.iconst 0, 1) := by decide +kernel
theorem d_M_check_42 : decode prog_13_method_38_code 42 = .ok (.putfield 321, 3) := by decide +kernel
theorem d_M_check_45 : decode prog_13_method_38_code 45 = .ok (.aload_n 0, 1) := by decide +kernel
theorem d_M_check_46 : decode prog_13_method_38_code 46 = .ok (.iconst (-1), 1) := by decide +kernel
theorem d_M_check_47 : decode prog_13_method_38_code 47 = .ok (.putfield 316, 3) := by decide +kernel
theorem d_M_check_50 : decode prog_13_method_38_code 50 = .ok (.aload_n 0, 1) := by decide +kernel
theorem d_M_check_51 : decode prog_13_method_38_code 51 = .ok (.iconst (-1), 1) := by decide +kernel
theorem d_M_check_52 : decode prog_13_method_38_code 52 = .ok (.putfield 319, 3) := by decide +kernel
theorem d_M_check_55 : decode prog_13_method_38_code 55 = .ok (.aload_n 0, 1) := by decide +kernel
theorem d_M_check_56 : decode prog_13_method_38_code 56 = .ok (.getfield 48, 3) := by decide +kernel
theorem d_M_check_59 : decode prog_13_method_38_code 59 = .ok (.iconst 0, 1) := by decide +kernel
theorem d_M_check_60 : decode prog_13_method_38_code 60 = .ok (.invokestatic 348, 3) := by decide +kernel
theorem d_M_check_63 : decode prog_13_method_38_code 63 = .ok (.iconst 0, 1) := by decide +kernel
theorem d_M_check_64 : decode prog_13_method_38_code 64 = .ok (.istore_n 2, 1) := by decide +kernel
theorem d_M_check_65 : decode prog_13_method_38_code 65 = .ok (.iload_n 2, 1) := by decide +kernel
theorem d_M_check_66 : decode prog_13_method_38_code 66 = .ok (.aload_n 0, 1) := by decide +kernel
theorem d_M_check_67 : decode prog_13_method_38_code 67 = .ok (.getfield 16, 3) := by decide +kernel
theorem d_M_check_70 : decode prog_13_method_38_code 70 = .ok (.getfield 152, 3) := by decide +kernel
theorem d_M_check_73 : decode prog_13_method_38_code 73 = .ok (.getfield 156, 3) := by decide +kernel
theorem d_M_check_76 : decode prog_13_method_38_code 76 = .ok (.if_icmp .ge 24, 3) := by decide +kernel
theorem d_M_check_79 : decode prog_13_method_38_code 79 = .ok (.aload_n 0, 1) := by decide +kernel
theorem d_M_check_80 : decode prog_13_method_38_code 80 = .ok (.getfield 48, 3) := by decide +kernel
theorem d_M_check_83 : decode prog_13_method_38_code 83 = .ok (.iload_n 2, 1) := by decide +kernel
theorem d_M_check_84 : decode prog_13_method_38_code 84 = .ok (.aload_n 0, 1) := by decide +kernel
theorem d_M_check_85 : decode prog_13_method_38_code 85 = .ok (.getfield 16, 3) := by decide +kernel
theorem d_M_check_88 : decode prog_13_method_38_code 88 = .ok (.getfield 196, 3) := by decide +kernel
theorem d_M_check_91 : decode prog_13_method_38_code 91 = .ok (.iload_n 2, 1) := by decide +kernel
theorem d_M_check_92 : decode prog_13_method_38_code 92 = .ok (.iaload, 1) := by decide +kernel
theorem d_M_check_93 : decode prog_13_method_38_code 93 = .ok (.iastore, 1) := by decide +kernel
theorem d_M_check_94 : decode prog_13_method_38_code 94 = .ok (.iinc 2 1, 3) := by decide +kernel
theorem d_M_check_97 : decode prog_13_method_38_code 97 = .ok (.goto (-32), 3) := by decide +kernel
theorem d_M_check_100 : decode prog_13_method_38_code 100 = .ok (.iconst 0, 1) := by decide +kernel
theorem d_M_check_101 : decode prog_13_method_38_code 101 = .ok (.istore_n 2, 1) := by decide +kernel
theorem d_M_check_102 : decode prog_13_method_38_code 102 = .ok (.iload_n 2, 1) := by decide +kernel
theorem d_M_check_103 : decode prog_13_method_38_code 103 = .ok (.iconst 4, 1) := by decide +kernel
theorem d_M_check_104 : decode prog_13_method_38_code 104 = .ok (.if_icmp .ge 19, 3) := by decide +kernel
theorem d_M_check_107 : decode prog_13_method_38_code 107 = .ok (.aload_n 0, 1) := by decide +kernel
theorem d_M_check_108 : decode prog_13_method_38_code 108 = .ok (.getfield 48, 3) := by decide +kernel
theorem d_M_check_111 : decode prog_13_method_38_code 111 = .ok (.bipush 8, 2) := by decide +kernel
theorem d_M_check_113 : decode prog_13_method_38_code 113 = .ok (.iload_n 2, 1) := by decide +kernel
theorem d_M_check_114 : decode prog_13_method_38_code 114 = .ok (.iadd, 1) := by decide +kernel
theorem d_M_check_115 : decode prog_13_method_38_code 115 = .ok (.iconst (-1), 1) := by decide +kernel
theorem d_M_check_116 : decode prog_13_method_38_code 116 = .ok (.iastore, 1) := by decide +kernel
theorem d_M_check_117 : decode prog_13_method_38_code 117 = .ok (.iinc 2 1, 3) := by decide +kernel
theorem d_M_check_120 : decode prog_13_method_38_code 120 = .ok (.goto (-18), 3) := by decide +kernel
theorem d_M_check_123 : decode prog_13_method_38_code 123 = .ok (.iconst 0, 1) := by decide +kernel
theorem d_M_check_124 : decode prog_13_method_38_code 124 = .ok (.istore_n 2, 1) := by decide +kernel
theorem d_M_check_125 : decode prog_13_method_38_code 125 = .ok (.iload_n 2, 1) := by decide +kernel
theorem d_M_check_126 : decode prog_13_method_38_code 126 = .ok (.iconst 4, 1) := by decide +kernel
theorem d_M_check_127 : decode prog_13_method_38_code 127 = .ok (.if_icmp .ge 44, 3) := by decide +kernel
theorem d_M_check_130 : decode prog_13_method_38_code 130 = .ok (.aload_n 0, 1) := by decide +kernel
theorem d_M_check_131 : decode prog_13_method_38_code 131 = .ok (.getfield 48, 3) := by decide +kernel
theorem d_M_check_134 : decode prog_13_method_38_code 134 = .ok (.iload_n 2, 1) := by decide +kernel
theorem d_M_check_135 : decode prog_13_method_38_code 135 = .ok (.invokestatic 296, 3) := by decide +kernel
theorem d_M_check_138 : decode prog_13_method_38_code 138 = .ok (.iconst 3, 1) := by decide +kernel
theorem d_M_check_139 : decode prog_13_method_38_code 139 = .ok (.iadd, 1) := by decide +kernel
theorem d_M_check_140 : decode prog_13_method_38_code 140 = .ok (.iload_n 2, 1) := by decide +kernel
theorem d_M_check_141 : decode prog_13_method_38_code 141 = .ok (.aload_n 0, 1) := by decide +kernel
theorem d_M_check_142 : decode prog_13_method_38_code 142 = .ok (.getfield 16, 3) := by decide +kernel
theorem d_M_check_145 : decode prog_13_method_38_code 145 = .ok (.getfield 164, 3) := by decide +kernel
theorem d_M_check_148 : decode prog_13_method_38_code 148 = .ok (.if_icmp .ge 15, 3) := by decide +kernel
theorem d_M_check_151 : decode prog_13_method_38_code 151 = .ok (.aload_n 0, 1) := by decide +kernel
theorem d_M_check_152 : decode prog_13_method_38_code 152 = .ok (.getfield 16, 3) := by decide +kernel
theorem d_M_check_155 : decode prog_13_method_38_code 155 = .ok (.getfield 222, 3) := by decide +kernel
theorem d_M_check_158 : decode prog_13_method_38_code 158 = .ok (.iload_n 2, 1) := by decide +kernel
theorem d_M_check_159 : decode prog_13_method_38_code 159 = .ok (.iaload, 1) := by decide +kernel
theorem d_M_check_160 : decode prog_13_method_38_code 160 = .ok (.goto 4, 3) := by decide +kernel
theorem d_M_check_163 : decode prog_13_method_38_code 163 = .ok (.iconst (-1), 1) := by decide +kernel
theorem d_M_check_164 : decode prog_13_method_38_code 164 = .ok (.iastore, 1) := by decide +kernel
theorem d_M_check_165 : decode prog_13_method_38_code 165 = .ok (.iinc 2 1, 3) := by decide +kernel
theorem d_M_check_168 : decode prog_13_method_38_code 168 = .ok (.goto (-43), 3) := by decide +kernel
theorem d_M_check_171 : decode prog_13_method_38_code 171 = .ok (.aload_n 0, 1) := by decide +kernel
theorem d_M_check_172 : decode prog_13_method_38_code 172 = .ok (.getfield 48, 3) := by decide +kernel
theorem d_M_check_175 : decode prog_13_method_38_code 175 = .ok (.bipush 33, 2) := by decide +kernel
theorem d_M_check_177 : decode prog_13_method_38_code 177 = .ok (.iconst (-1), 1) := by decide +kernel
theorem d_M_check_178 : decode prog_13_method_38_code 178 = .ok (.iastore, 1) := by decide +kernel
theorem d_M_check_179 : decode prog_13_method_38_code 179 = .ok (.aload_n 0, 1) := by decide +kernel
theorem d_M_check_180 : decode prog_13_method_38_code 180 = .ok (.invokevirtual 324, 3) := by decide +kernel
theorem d_M_check_183 : decode prog_13_method_38_code 183 = .ok (.pop, 1) := by decide +kernel
theorem d_M_check_184 : decode prog_13_method_38_code 184 = .ok (.aload_n 0, 1) := by decide +kernel
theorem d_M_check_185 : decode prog_13_method_38_code 185 = .ok (.iconst 0, 1) := by decide +kernel
theorem d_M_check_186 : decode prog_13_method_38_code 186 = .ok (.putfield 316, 3) := by decide +kernel
theorem d_M_check_189 : decode prog_13_method_38_code 189 = .ok (.aload_n 0, 1) := by decide +kernel
theorem d_M_check_190 : decode prog_13_method_38_code 190 = .ok (.getfield 316, 3) := by decide +kernel
theorem d_M_check_193 : decode prog_13_method_38_code 193 = .ok (.aload_n 0, 1) := by decide +kernel
theorem d_M_check_194 : decode prog_13_method_38_code 194 = .ok (.getfield 304, 3) := by decide +kernel
theorem d_M_check_197 : decode prog_13_method_38_code 197 = .ok (.if_icmp .ge 121, 3) := by decide +kernel
theorem d_M_check_200 : decode prog_13_method_38_code 200 = .ok (.aload_n 0, 1) := by decide +kernel
theorem d_M_check_201 : decode prog_13_method_38_code 201 = .ok (.getfield 39, 3) := by decide +kernel
theorem d_M_check_204 : decode prog_13_method_38_code 204 = .ok (.aload_n 0, 1) := by decide +kernel
theorem d_M_check_205 : decode prog_13_method_38_code 205 = .ok (.getfield 316, 3) := by decide +kernel
theorem d_M_check_208 : decode prog_13_method_38_code 208 = .ok (.aload_n 0, 1) := by decide +kernel
theorem d_M_check_209 : decode prog_13_method_38_code 209 = .ok (.getfield 321, 3) := by decide +kernel
theorem d_M_check_212 : decode prog_13_method_38_code 212 = .ok (.iastore, 1) := by decide +kernel
theorem d_M_check_213 : decode prog_13_method_38_code 213 = .ok (.aload_n 0, 1) := by decide +kernel
theorem d_M_check_214 : decode prog_13_method_38_code 214 = .ok (.getfield 27, 3) := by decide +kernel
theorem d_M_check_217 : decode prog_13_method_38_code 217 = .ok (.bipush 34, 2) := by decide +kernel
theorem d_M_check_219 : decode prog_13_method_38_code 219 = .ok (.aload_n 0, 1) := by decide +kernel
theorem d_M_check_220 : decode prog_13_method_38_code 220 = .ok (.getfield 316, 3) := by decide +kernel
theorem d_M_check_223 : decode prog_13_method_38_code 223 = .ok (.imul, 1) := by decide +kernel
theorem d_M_check_224 : decode prog_13_method_38_code 224 = .ok (.aload_n 0, 1) := by decide +kernel
theorem d_M_check_225 : decode prog_13_method_38_code 225 = .ok (.getfield 45, 3) := by decide +kernel
theorem d_M_check_228 : decode prog_13_method_38_code 228 = .ok (.iconst 0, 1) := by decide +kernel
