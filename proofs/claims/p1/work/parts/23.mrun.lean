theorem zm_616 : Cond.fieldLink "ScheduleCheckModel" 16 "ScheduleCheckModel" "program" "LScheduleCheckModel$Program;" ∈ zd_ww := zd_me 888 (by decide +kernel) (by decide +kernel)
theorem zm_617 : Cond.fieldLink "ScheduleCheckModel" 51 "ScheduleCheckModel" "stack" "[I" ∈ zd_ww := zd_me 913 (by decide +kernel) (by decide +kernel)
theorem zm_618 : Cond.code ⟨"ScheduleCheckModel","together","(III)I"⟩ prog_13_method_29_code 4 (Option.some FieldType.int) ∈ zd_ww := zd_me 1207 (by decide +kernel) (by decide +kernel)
theorem zm_619 : Cond.methodLink "ScheduleCheckModel" 300 ⟨"ScheduleCheckModel","together","(III)I"⟩ ∈ zd_ww := zd_me 1205 (by decide +kernel) (by decide +kernel)
theorem zm_620 : Cond.static ⟨"ScheduleCheckModel","together","(III)I"⟩ ∈ zd_ww := zd_me 1206 (by decide +kernel) (by decide +kernel)
theorem zm_621 : Cond.fieldLink "ScheduleCheckModel" 45 "ScheduleCheckModel" "now" "[I" ∈ zd_ww := zd_me 911 (by decide +kernel) (by decide +kernel)
theorem zm_622 : Cond.code ⟨"ScheduleCheckModel","each","(I)I"⟩ prog_13_method_27_code 1 (Option.some FieldType.int) ∈ zd_ww := zd_me 1175 (by decide +kernel) (by decide +kernel)
theorem zm_623 : Cond.methodLink "ScheduleCheckModel" 296 ⟨"ScheduleCheckModel","each","(I)I"⟩ ∈ zd_ww := zd_me 1173 (by decide +kernel) (by decide +kernel)
theorem zm_624 : Cond.static ⟨"ScheduleCheckModel","each","(I)I"⟩ ∈ zd_ww := zd_me 1174 (by decide +kernel) (by decide +kernel)
theorem zm_625 : Cond.fieldLink "ScheduleCheckModel" 232 "ScheduleCheckModel$Program" "kind" "[I" ∈ zd_ww := zd_me 849 (by decide +kernel) (by decide +kernel)
theorem zm_626 : Cond.fieldLink "ScheduleCheckModel" 244 "ScheduleCheckModel$Program" "what" "[I" ∈ zd_ww := zd_me 851 (by decide +kernel) (by decide +kernel)
theorem zm_627 : Cond.fieldLink "ScheduleCheckModel" 27 "ScheduleCheckModel" "row" "[I" ∈ zd_ww := zd_me 903 (by decide +kernel) (by decide +kernel)
theorem zm_628 : Cond.fieldLink "ScheduleCheckModel" 48 "ScheduleCheckModel" "then" "[I" ∈ zd_ww := zd_me 912 (by decide +kernel) (by decide +kernel)
theorem zm_629 : Cond.fieldLink "ScheduleCheckModel" 304 "ScheduleCheckModel" "states" "I" ∈ zd_ww := zd_me 909 (by decide +kernel) (by decide +kernel)
theorem zm_630 : Cond.code ⟨"ScheduleCheckModel","isState","(I)Z"⟩ prog_13_method_32_code 3 (Option.some FieldType.boolean) ∈ zd_ww := zd_me 1183 (by decide +kernel) (by decide +kernel)
theorem zm_631 : Cond.methodLink "ScheduleCheckModel" 307 ⟨"ScheduleCheckModel","isState","(I)Z"⟩ ∈ zd_ww := zd_me 1180 (by decide +kernel) (by decide +kernel)
theorem zm_632 : Cond.instanceMethod ⟨"ScheduleCheckModel","isState","(I)Z"⟩ ∈ zd_ww := zd_me 1182 (by decide +kernel) (by decide +kernel)
theorem zm_633 : Cond.selects "ScheduleCheckModel" ⟨"ScheduleCheckModel","isState","(I)Z"⟩ ⟨"ScheduleCheckModel","isState","(I)Z"⟩ ∈ zd_ww := zd_ms 69 (by decide +kernel) (by decide +kernel)
theorem zm_634 : Cond.methodLink "ScheduleCheckModel" 310 ⟨"java/lang/System","arraycopy","(Ljava/lang/Object;ILjava/lang/Object;II)V"⟩ ∈ zd_ww := zd_me 1184 (by decide +kernel) (by decide +kernel)
theorem zm_635 : Cond.fieldLink "ScheduleCheckModel" 30 "ScheduleCheckModel" "depth" "[I" ∈ zd_ww := zd_me 904 (by decide +kernel) (by decide +kernel)
theorem zm_636 : Cond.fieldLink "ScheduleCheckModel" 316 "ScheduleCheckModel" "at" "I" ∈ zd_ww := zd_me 914 (by decide +kernel) (by decide +kernel)
theorem zm_637 : Cond.fieldLink "ScheduleCheckModel" 33 "ScheduleCheckModel" "last" "[I" ∈ zd_ww := zd_me 905 (by decide +kernel) (by decide +kernel)
theorem zm_638 : Cond.fieldLink "ScheduleCheckModel" 319 "ScheduleCheckModel" "thread" "I" ∈ zd_ww := zd_me 915 (by decide +kernel) (by decide +kernel)
theorem zm_639 : Cond.fieldLink "ScheduleCheckModel" 36 "ScheduleCheckModel" "before" "[I" ∈ zd_ww := zd_me 906 (by decide +kernel) (by decide +kernel)
theorem zm_640 : Cond.fieldLink "ScheduleCheckModel" 42 "ScheduleCheckModel" "nextOne" "[I" ∈ zd_ww := zd_me 908 (by decide +kernel) (by decide +kernel)
theorem zm_641 : Cond.fieldLink "ScheduleCheckModel" 321 "ScheduleCheckModel" "ways" "I" ∈ zd_ww := zd_me 910 (by decide +kernel) (by decide +kernel)
theorem zm_642 : Cond.code ⟨"ScheduleCheckModel","reach","()Z"⟩ prog_13_method_31_code 2 (Option.some FieldType.boolean) ∈ zd_ww := zd_me 1179 (by decide +kernel) (by decide +kernel)
theorem zm_643 : Cond.methodLink "ScheduleCheckModel" 324 ⟨"ScheduleCheckModel","reach","()Z"⟩ ∈ zd_ww := zd_me 1176 (by decide +kernel) (by decide +kernel)
theorem zm_644 : Cond.instanceMethod ⟨"ScheduleCheckModel","reach","()Z"⟩ ∈ zd_ww := zd_me 1178 (by decide +kernel) (by decide +kernel)
theorem zm_645 : Cond.selects "ScheduleCheckModel" ⟨"ScheduleCheckModel","reach","()Z"⟩ ⟨"ScheduleCheckModel","reach","()Z"⟩ ∈ zd_ww := zd_ms 68 (by decide +kernel) (by decide +kernel)
theorem zm_646 : Cond.fieldLink "ScheduleCheckModel" 164 "ScheduleCheckModel$Program" "threads" "I" ∈ zd_ww := zd_me 846 (by decide +kernel) (by decide +kernel)
theorem zm_647 : Cond.code ⟨"ScheduleCheckModel","goOn","(II)V"⟩ prog_13_method_33_code 3 none ∈ zd_ww := zd_me 1196 (by decide +kernel) (by decide +kernel)
theorem zm_648 : Cond.methodLink "ScheduleCheckModel" 327 ⟨"ScheduleCheckModel","goOn","(II)V"⟩ ∈ zd_ww := zd_me 1193 (by decide +kernel) (by decide +kernel)
theorem zm_649 : Cond.instanceMethod ⟨"ScheduleCheckModel","goOn","(II)V"⟩ ∈ zd_ww := zd_me 1195 (by decide +kernel) (by decide +kernel)
theorem zm_650 : Cond.selects "ScheduleCheckModel" ⟨"ScheduleCheckModel","goOn","(II)V"⟩ ⟨"ScheduleCheckModel","goOn","(II)V"⟩ ∈ zd_ww := zd_ms 72 (by decide +kernel) (by decide +kernel)
theorem zm_651 : Cond.code ⟨"ScheduleCheckModel","waitsFor","(II)Z"⟩ prog_13_method_36_code 3 (Option.some FieldType.boolean) ∈ zd_ww := zd_me 1215 (by decide +kernel) (by decide +kernel)
theorem zm_652 : Cond.methodLink "ScheduleCheckModel" 338 ⟨"ScheduleCheckModel","waitsFor","(II)Z"⟩ ∈ zd_ww := zd_me 1212 (by decide +kernel) (by decide +kernel)
theorem zm_653 : Cond.instanceMethod ⟨"ScheduleCheckModel","waitsFor","(II)Z"⟩ ∈ zd_ww := zd_me 1214 (by decide +kernel) (by decide +kernel)
theorem zm_654 : Cond.selects "ScheduleCheckModel" ⟨"ScheduleCheckModel","waitsFor","(II)Z"⟩ ⟨"ScheduleCheckModel","waitsFor","(II)Z"⟩ ∈ zd_ww := zd_ms 76 (by decide +kernel) (by decide +kernel)
theorem zm_655 : Cond.code ⟨"ScheduleCheckModel","wrong","(I)Z"⟩ prog_13_method_34_code 2 (Option.some FieldType.boolean) ∈ zd_ww := zd_me 1200 (by decide +kernel) (by decide +kernel)
theorem zm_656 : Cond.methodLink "ScheduleCheckModel" 330 ⟨"ScheduleCheckModel","wrong","(I)Z"⟩ ∈ zd_ww := zd_me 1197 (by decide +kernel) (by decide +kernel)
theorem zm_657 : Cond.instanceMethod ⟨"ScheduleCheckModel","wrong","(I)Z"⟩ ∈ zd_ww := zd_me 1199 (by decide +kernel) (by decide +kernel)
theorem zm_658 : Cond.selects "ScheduleCheckModel" ⟨"ScheduleCheckModel","wrong","(I)Z"⟩ ⟨"ScheduleCheckModel","wrong","(I)Z"⟩ ∈ zd_ww := zd_ms 73 (by decide +kernel) (by decide +kernel)
theorem zm_659 : Cond.code ⟨"ScheduleCheckModel","wake","(II)Z"⟩ prog_13_method_37_code 5 (Option.some FieldType.boolean) ∈ zd_ww := zd_me 1211 (by decide +kernel) (by decide +kernel)
theorem zm_660 : Cond.methodLink "ScheduleCheckModel" 336 ⟨"ScheduleCheckModel","wake","(II)Z"⟩ ∈ zd_ww := zd_me 1208 (by decide +kernel) (by decide +kernel)
theorem zm_661 : Cond.instanceMethod ⟨"ScheduleCheckModel","wake","(II)Z"⟩ ∈ zd_ww := zd_me 1210 (by decide +kernel) (by decide +kernel)
theorem zm_662 : Cond.selects "ScheduleCheckModel" ⟨"ScheduleCheckModel","wake","(II)Z"⟩ ⟨"ScheduleCheckModel","wake","(II)Z"⟩ ∈ zd_ww := zd_ms 75 (by decide +kernel) (by decide +kernel)
theorem zm_663 : Cond.fieldLink "ScheduleCheckModel" 249 "ScheduleCheckModel$Program" "expression" "[I" ∈ zd_ww := zd_me 853 (by decide +kernel) (by decide +kernel)
theorem zm_664 : Cond.code ⟨"ScheduleCheckModel","reckon","(II)I"⟩ prog_13_method_28_code 7 (Option.some FieldType.int) ∈ zd_ww := zd_me 1204 (by decide +kernel) (by decide +kernel)
theorem zm_665 : Cond.methodLink "ScheduleCheckModel" 333 ⟨"ScheduleCheckModel","reckon","(II)I"⟩ ∈ zd_ww := zd_me 1201 (by decide +kernel) (by decide +kernel)
theorem zm_666 : Cond.instanceMethod ⟨"ScheduleCheckModel","reckon","(II)I"⟩ ∈ zd_ww := zd_me 1203 (by decide +kernel) (by decide +kernel)
theorem zm_667 : Cond.selects "ScheduleCheckModel" ⟨"ScheduleCheckModel","reckon","(II)I"⟩ ⟨"ScheduleCheckModel","reckon","(II)I"⟩ ∈ zd_ww := zd_ms 74 (by decide +kernel) (by decide +kernel)
theorem zm_668 : Cond.code ⟨"ScheduleCheckModel","load","(I)V"⟩ prog_13_method_39_code 2 none ∈ zd_ww := zd_me 1227 (by decide +kernel) (by decide +kernel)
theorem zm_669 : Cond.methodLink "ScheduleCheckModel" 360 ⟨"ScheduleCheckModel","load","(I)V"⟩ ∈ zd_ww := zd_me 1224 (by decide +kernel) (by decide +kernel)
theorem zm_670 : Cond.instanceMethod ⟨"ScheduleCheckModel","load","(I)V"⟩ ∈ zd_ww := zd_me 1226 (by decide +kernel) (by decide +kernel)
theorem zm_671 : Cond.selects "ScheduleCheckModel" ⟨"ScheduleCheckModel","load","(I)V"⟩ ⟨"ScheduleCheckModel","load","(I)V"⟩ ∈ zd_ww := zd_ms 78 (by decide +kernel) (by decide +kernel)
theorem zm_672 : Cond.code ⟨"ScheduleCheckModel","isReady","(I)Z"⟩ prog_13_method_30_code 4 (Option.some FieldType.boolean) ∈ zd_ww := zd_me 1188 (by decide +kernel) (by decide +kernel)
theorem zm_673 : Cond.methodLink "ScheduleCheckModel" 354 ⟨"ScheduleCheckModel","isReady","(I)Z"⟩ ∈ zd_ww := zd_me 1185 (by decide +kernel) (by decide +kernel)
theorem zm_674 : Cond.instanceMethod ⟨"ScheduleCheckModel","isReady","(I)Z"⟩ ∈ zd_ww := zd_me 1187 (by decide +kernel) (by decide +kernel)
theorem zm_675 : Cond.selects "ScheduleCheckModel" ⟨"ScheduleCheckModel","isReady","(I)Z"⟩ ⟨"ScheduleCheckModel","isReady","(I)Z"⟩ ∈ zd_ww := zd_ms 70 (by decide +kernel) (by decide +kernel)
/-! ScheduleCheckModel.together -/
def y_M_together : MethodName := ⟨"ScheduleCheckModel","together","(III)I"⟩
theorem d_M_together_0 : decode prog_13_method_29_code 0 = .ok (.iload_n 0, 1) := by decide +kernel
theorem d_M_together_1 : decode prog_13_method_29_code 1 = .ok (.tableswitch 179 3 14 #[63, 68, 73, 179, 179, 78, 92, 106, 120, 134, 148, 162], 63) := by decide +kernel
theorem d_M_together_64 : decode prog_13_method_29_code 64 = .ok (.iload_n 1, 1) := by decide +kernel
theorem d_M_together_65 : decode prog_13_method_29_code 65 = .ok (.iload_n 2, 1) := by decide +kernel
theorem d_M_together_66 : decode prog_13_method_29_code 66 = .ok (.iadd, 1) := by decide +kernel
theorem d_M_together_67 : decode prog_13_method_29_code 67 = .ok (.i2b, 1) := by decide +kernel
theorem d_M_together_68 : decode prog_13_method_29_code 68 = .ok (.ireturn, 1) := by decide +kernel
theorem d_M_together_69 : decode prog_13_method_29_code 69 = .ok (.iload_n 1, 1) := by decide +kernel
theorem d_M_together_70 : decode prog_13_method_29_code 70 = .ok (.iload_n 2, 1) := by decide +kernel
theorem d_M_together_71 : decode prog_13_method_29_code 71 = .ok (.isub, 1) := by decide +kernel
theorem d_M_together_72 : decode prog_13_method_29_code 72 = .ok (.i2b, 1) := by decide +kernel
theorem d_M_together_73 : decode prog_13_method_29_code 73 = .ok (.ireturn, 1) := by decide +kernel
theorem d_M_together_74 : decode prog_13_method_29_code 74 = .ok (.iload_n 1, 1) := by decide +kernel
theorem d_M_together_75 : decode prog_13_method_29_code 75 = .ok (.iload_n 2, 1) := by decide +kernel
theorem d_M_together_76 : decode prog_13_method_29_code 76 = .ok (.imul, 1) := by decide +kernel
theorem d_M_together_77 : decode prog_13_method_29_code 77 = .ok (.i2b, 1) := by decide +kernel
theorem d_M_together_78 : decode prog_13_method_29_code 78 = .ok (.ireturn, 1) := by decide +kernel
theorem d_M_together_79 : decode prog_13_method_29_code 79 = .ok (.iload_n 1, 1) := by decide +kernel
theorem d_M_together_80 : decode prog_13_method_29_code 80 = .ok (.iload_n 2, 1) := by decide +kernel
theorem d_M_together_81 : decode prog_13_method_29_code 81 = .ok (.if_icmp .ne 7, 3) := by decide +kernel
theorem d_M_together_84 : decode prog_13_method_29_code 84 = .ok (.iconst 1, 1) := by decide +kernel
theorem d_M_together_85 : decode prog_13_method_29_code 85 = .ok (.goto 4, 3) := by decide +kernel
theorem d_M_together_88 : decode prog_13_method_29_code 88 = .ok (.iconst 0, 1) := by decide +kernel
theorem d_M_together_89 : decode prog_13_method_29_code 89 = .ok (.istore_n 3, 1) := by decide +kernel
theorem d_M_together_90 : decode prog_13_method_29_code 90 = .ok (.goto 104, 3) := by decide +kernel
theorem d_M_together_93 : decode prog_13_method_29_code 93 = .ok (.iload_n 1, 1) := by decide +kernel
theorem d_M_together_94 : decode prog_13_method_29_code 94 = .ok (.iload_n 2, 1) := by decide +kernel
theorem d_M_together_95 : decode prog_13_method_29_code 95 = .ok (.if_icmp .eq 7, 3) := by decide +kernel
theorem d_M_together_98 : decode prog_13_method_29_code 98 = .ok (.iconst 1, 1) := by decide +kernel
theorem d_M_together_99 : decode prog_13_method_29_code 99 = .ok (.goto 4, 3) := by decide +kernel
theorem d_M_together_102 : decode prog_13_method_29_code 102 = .ok (.iconst 0, 1) := by decide +kernel
theorem d_M_together_103 : decode prog_13_method_29_code 103 = .ok (.istore_n 3, 1) := by decide +kernel
theorem d_M_together_104 : decode prog_13_method_29_code 104 = .ok (.goto 90, 3) := by decide +kernel
theorem d_M_together_107 : decode prog_13_method_29_code 107 = .ok (.iload_n 1, 1) := by decide +kernel
theorem d_M_together_108 : decode prog_13_method_29_code 108 = .ok (.iload_n 2, 1) := by decide +kernel
theorem d_M_together_109 : decode prog_13_method_29_code 109 = .ok (.if_icmp .ge 7, 3) := by decide +kernel
theorem d_M_together_112 : decode prog_13_method_29_code 112 = .ok (.iconst 1, 1) := by decide +kernel
theorem d_M_together_113 : decode prog_13_method_29_code 113 = .ok (.goto 4, 3) := by decide +kernel
theorem d_M_together_116 : decode prog_13_method_29_code 116 = .ok (.iconst 0, 1) := by decide +kernel
theorem d_M_together_117 : decode prog_13_method_29_code 117 = .ok (.istore_n 3, 1) := by decide +kernel
theorem d_M_together_118 : decode prog_13_method_29_code 118 = .ok (.goto 76, 3) := by decide +kernel
theorem d_M_together_121 : decode prog_13_method_29_code 121 = .ok (.iload_n 1, 1) := by decide +kernel
theorem d_M_together_122 : decode prog_13_method_29_code 122 = .ok (.iload_n 2, 1) := by decide +kernel
theorem d_M_together_123 : decode prog_13_method_29_code 123 = .ok (.if_icmp .gt 7, 3) := by decide +kernel
theorem d_M_together_126 : decode prog_13_method_29_code 126 = .ok (.iconst 1, 1) := by decide +kernel
theorem d_M_together_127 : decode prog_13_method_29_code 127 = .ok (.goto 4, 3) := by decide +kernel
theorem d_M_together_130 : decode prog_13_method_29_code 130 = .ok (.iconst 0, 1) := by decide +kernel
theorem d_M_together_131 : decode prog_13_method_29_code 131 = .ok (.istore_n 3, 1) := by decide +kernel
theorem d_M_together_132 : decode prog_13_method_29_code 132 = .ok (.goto 62, 3) := by decide +kernel
theorem d_M_together_135 : decode prog_13_method_29_code 135 = .ok (.iload_n 1, 1) := by decide +kernel
theorem d_M_together_136 : decode prog_13_method_29_code 136 = .ok (.iload_n 2, 1) := by decide +kernel
theorem d_M_together_137 : decode prog_13_method_29_code 137 = .ok (.if_icmp .le 7, 3) := by decide +kernel
theorem d_M_together_140 : decode prog_13_method_29_code 140 = .ok (.iconst 1, 1) := by decide +kernel
theorem d_M_together_141 : decode prog_13_method_29_code 141 = .ok (.goto 4, 3) := by decide +kernel
theorem d_M_together_144 : decode prog_13_method_29_code 144 = .ok (.iconst 0, 1) := by decide +kernel
theorem d_M_together_145 : decode prog_13_method_29_code 145 = .ok (.istore_n 3, 1) := by decide +kernel
theorem d_M_together_146 : decode prog_13_method_29_code 146 = .ok (.goto 48, 3) := by decide +kernel
theorem d_M_together_149 : decode prog_13_method_29_code 149 = .ok (.iload_n 1, 1) := by decide +kernel
theorem d_M_together_150 : decode prog_13_method_29_code 150 = .ok (.iload_n 2, 1) := by decide +kernel
theorem d_M_together_151 : decode prog_13_method_29_code 151 = .ok (.if_icmp .lt 7, 3) := by decide +kernel
theorem d_M_together_154 : decode prog_13_method_29_code 154 = .ok (.iconst 1, 1) := by decide +kernel
theorem d_M_together_155 : decode prog_13_method_29_code 155 = .ok (.goto 4, 3) := by decide +kernel
theorem d_M_together_158 : decode prog_13_method_29_code 158 = .ok (.iconst 0, 1) := by decide +kernel
theorem d_M_together_159 : decode prog_13_method_29_code 159 = .ok (.istore_n 3, 1) := by decide +kernel
theorem d_M_together_160 : decode prog_13_method_29_code 160 = .ok (.goto 34, 3) := by decide +kernel
theorem d_M_together_163 : decode prog_13_method_29_code 163 = .ok (.iload_n 1, 1) := by decide +kernel
theorem d_M_together_164 : decode prog_13_method_29_code 164 = .ok (.ifCond .eq 11, 3) := by decide +kernel
theorem d_M_together_167 : decode prog_13_method_29_code 167 = .ok (.iload_n 2, 1) := by decide +kernel
theorem d_M_together_168 : decode prog_13_method_29_code 168 = .ok (.ifCond .eq 7, 3) := by decide +kernel
theorem d_M_together_171 : decode prog_13_method_29_code 171 = .ok (.iconst 1, 1) := by decide +kernel
theorem d_M_together_172 : decode prog_13_method_29_code 172 = .ok (.goto 4, 3) := by decide +kernel
theorem d_M_together_175 : decode prog_13_method_29_code 175 = .ok (.iconst 0, 1) := by decide +kernel
theorem d_M_together_176 : decode prog_13_method_29_code 176 = .ok (.istore_n 3, 1) := by decide +kernel
theorem d_M_together_177 : decode prog_13_method_29_code 177 = .ok (.goto 17, 3) := by decide +kernel
theorem d_M_together_180 : decode prog_13_method_29_code 180 = .ok (.iload_n 1, 1) := by decide +kernel
theorem d_M_together_181 : decode prog_13_method_29_code 181 = .ok (.ifCond .ne 7, 3) := by decide +kernel
theorem d_M_together_184 : decode prog_13_method_29_code 184 = .ok (.iload_n 2, 1) := by decide +kernel
theorem d_M_together_185 : decode prog_13_method_29_code 185 = .ok (.ifCond .eq 7, 3) := by decide +kernel
theorem d_M_together_188 : decode prog_13_method_29_code 188 = .ok (.iconst 1, 1) := by decide +kernel
theorem d_M_together_189 : decode prog_13_method_29_code 189 = .ok (.goto 4, 3) := by decide +kernel
theorem d_M_together_192 : decode prog_13_method_29_code 192 = .ok (.iconst 0, 1) := by decide +kernel
theorem d_M_together_193 : decode prog_13_method_29_code 193 = .ok (.istore_n 3, 1) := by decide +kernel
theorem d_M_together_194 : decode prog_13_method_29_code 194 = .ok (.iload_n 3, 1) := by decide +kernel
theorem d_M_together_195 : decode prog_13_method_29_code 195 = .ok (.ifCond .eq 7, 3) := by decide +kernel
theorem d_M_together_198 : decode prog_13_method_29_code 198 = .ok (.iconst 1, 1) := by decide +kernel
theorem d_M_together_199 : decode prog_13_method_29_code 199 = .ok (.goto 4, 3) := by decide +kernel
theorem d_M_together_202 : decode prog_13_method_29_code 202 = .ok (.iconst 0, 1) := by decide +kernel
theorem d_M_together_203 : decode prog_13_method_29_code 203 = .ok (.ireturn, 1) := by decide +kernel
def zf_M_together_203 (F : Nat)  (t0 : Int32) (σ : zs_S) : Option (Int32 × zs_S) :=
  some (t0, σ)
def zf_M_together_194 (F : Nat)  (x3 : Int32) (σ : zs_S) : Option (Int32 × zs_S) :=
  if x3 = 0 then (
    zf_M_together_203 F 0 σ
  ) else (
    zf_M_together_203 F 1 σ
  )
def zf_M_together_193 (F : Nat)  (t0 : Int32) (σ : zs_S) : Option (Int32 × zs_S) :=
  zf_M_together_194 F t0 σ
def zf_M_together_188 (F : Nat)   (σ : zs_S) : Option (Int32 × zs_S) :=
  zf_M_together_193 F 1 σ
def zf_M_together_176 (F : Nat)  (t0 : Int32) (σ : zs_S) : Option (Int32 × zs_S) :=
  zf_M_together_194 F t0 σ
def zf_M_together_175 (F : Nat)   (σ : zs_S) : Option (Int32 × zs_S) :=
  zf_M_together_176 F 0 σ
def zf_M_together_159 (F : Nat)  (t0 : Int32) (σ : zs_S) : Option (Int32 × zs_S) :=
  zf_M_together_194 F t0 σ
def zf_M_together_145 (F : Nat)  (t0 : Int32) (σ : zs_S) : Option (Int32 × zs_S) :=
  zf_M_together_194 F t0 σ
def zf_M_together_131 (F : Nat)  (t0 : Int32) (σ : zs_S) : Option (Int32 × zs_S) :=
  zf_M_together_194 F t0 σ
def zf_M_together_117 (F : Nat)  (t0 : Int32) (σ : zs_S) : Option (Int32 × zs_S) :=
  zf_M_together_194 F t0 σ
def zf_M_together_103 (F : Nat)  (t0 : Int32) (σ : zs_S) : Option (Int32 × zs_S) :=
  zf_M_together_194 F t0 σ
def zf_M_together_89 (F : Nat)  (t0 : Int32) (σ : zs_S) : Option (Int32 × zs_S) :=
  zf_M_together_194 F t0 σ
def zf_M_together (F : Nat) (x0 : Int32) (x1 : Int32) (x2 : Int32) (σ : zs_S) : Option (Int32 × zs_S) :=
  if x0 = 3 then (
    some (((x1 + x2 : Int32)).toInt8.toInt32, σ)
  ) else (
  if x0 = 4 then (
    some (((x1 - x2 : Int32)).toInt8.toInt32, σ)
  ) else (
  if x0 = 5 then (
    some (((x1 * x2 : Int32)).toInt8.toInt32, σ)
  ) else (
  if x0 = 6 then (
    if x1 = 0 then (
      if x2 = 0 then (
        zf_M_together_193 F 0 σ
      ) else (
        zf_M_together_188 F σ
      )
    ) else (
      zf_M_together_188 F σ
    )
  ) else (
  if x0 = 7 then (
    if x1 = 0 then (
      if x2 = 0 then (
        zf_M_together_193 F 0 σ
      ) else (
        zf_M_together_188 F σ
      )
    ) else (
      zf_M_together_188 F σ
    )
  ) else (
  if x0 = 8 then (
    if x1 = x2 then (
      zf_M_together_89 F 1 σ
    ) else (
      zf_M_together_89 F 0 σ
    )
  ) else (
  if x0 = 9 then (
    if x1 = x2 then (
      zf_M_together_103 F 0 σ
    ) else (
      zf_M_together_103 F 1 σ
    )
  ) else (
  if x0 = 10 then (
    if x2 ≤ x1 then (
      zf_M_together_117 F 0 σ
    ) else (
      zf_M_together_117 F 1 σ
    )
  ) else (
  if x0 = 11 then (
    if x2 < x1 then (
      zf_M_together_131 F 0 σ
    ) else (
      zf_M_together_131 F 1 σ
    )
  ) else (
  if x0 = 12 then (
    if x1 ≤ x2 then (
      zf_M_together_145 F 0 σ
    ) else (
      zf_M_together_145 F 1 σ
    )
  ) else (
  if x0 = 13 then (
    if x1 < x2 then (
      zf_M_together_159 F 0 σ
    ) else (
      zf_M_together_159 F 1 σ
    )
  ) else (
  if x0 = 14 then (
    if x1 = 0 then (
      zf_M_together_175 F σ
    ) else (
      if x2 = 0 then (
        zf_M_together_175 F σ
      ) else (
        zf_M_together_176 F 1 σ
      )
    )
  ) else (
    if x1 = 0 then (
      if x2 = 0 then (
        zf_M_together_193 F 0 σ
      ) else (
        zf_M_together_188 F σ
      )
    ) else (
      zf_M_together_188 F σ
    )
  ))))))))))))
set_option maxHeartbeats 4000000 in
set_option maxRecDepth 100000 in
theorem zc_M_together {l : Launch} {D : va_G} {cA : Nat → ClassId} {ad : Nat → Nat} {A : Nat → Prop} {F : Nat} {x0 : Int32} {x1 : Int32} {x2 : Int32} {σ : zs_S} {q : Int32 × zs_S} (hJ : zs_J ad) (hf : zf_M_together F x0 x1 x2 σ = some q) : Met l y_M_together (.code y_M_together prog_13_method_29_code 4 (some .int) :: zd_ww) { frames := 0, cells := 0, slots := 0, locals := 0 } (va_Pc [.int x0, .int x1, .int x2] (zs_U 1 D cA ad A σ)) (zs_Qi 1 D cA ad A q) 0 0 A := by
  refine Met.ofW (cc := prog_13_method_29_code) (maxL := 4) (ret := (some .int)) (by decide) rfl ?_
  intro p e s m args below meth c s₁ B hml hv
  obtain ⟨hargs, hP, hK, hD, hZ⟩ := hv
  have G : zs_G 1 p s m args c prog_13_method_29_code 4 "ScheduleCheckModel" D cA ad A := ⟨⟨B.exec, B.bytes, hml, findClass_of_methodNamed B.named, fun w h => atoms_spec B.pre w (List.mem_cons_of_mem _ h)⟩, hK, hJ, hZ⟩
  have hw : zs_I 1 D cA ad A s σ s.heap [] := ⟨hP, hD, va_S.rf⟩
  have hx := G.1.1
  have hb := G.1.2.1
  have hown := G.1.2.2.2.1
  have hts := G.1.2.2.2.2
  have hr := B.returns
  have hlocks := B.notSynchronized
  have he : entryFrame m args 4 = F0 m 0 ((lg_sl [.int x0, .int x1, .int x2] ++ List.replicate (4 - (lg_sl [.int x0, .int x1, .int x2]).length) Slot.unset).toArray) [] := by rw [hargs]; exact lg_entry_eq m _ 4
  have hl := lv_entry [.int x0, .int x1, .int x2] (n := 4) (Nat.le_of_ble_eq_true rfl)
  rw [he]
  generalize (lg_sl [.int x0, .int x1, .int x2] ++ List.replicate (4 - (lg_sl [.int x0, .int x1, .int x2]).length) Slot.unset).toArray = ls at hl
  have hl : lv_has ls 4 [(0, .int x0), (1, .int x1), (2, .int x2)] := hl
  obtain ⟨RR, hR⟩ : ∃ z, z = (headSpec (.code y_M_together prog_13_method_29_code 4 (some .int) :: zd_ww) { frames := 0, cells := 0, slots := 0, locals := 0 }).room := ⟨_, rfl⟩
  rw [← hR]
  obtain ⟨QQ, hQ⟩ : ∃ z, z = MQ below (zs_Qi 1 D cA ad A q) args s 0 0 A := ⟨_, rfl⟩
  rw [← hQ]
  have hR1 : 0 ≤ RR.frames := by rw [hR]; exact Nat.le_refl _
  have hR2 : 0 ≤ RR.locals := by rw [hR]; exact Nat.le_refl _
  generalize s.heap = H at hw ⊢
  generalize ([] : List Loc) = locs at hw ⊢
  have K203 : ∀ (t0 : Int32) (σ : zs_S) (H : Heap) (locs : List Loc) (ls : Array Slot), zf_M_together_203 F t0 σ = some q → zs_I 1 D cA ad A s σ H locs → lv_has ls 4 [] → W p l e RR s m args below meth c H locs 0 0 QQ (F0 m 203 ls [.int t0]) := by
    intro  t0 σ H locs ls hf hw hl
    unfold zf_M_together_203 at hf
    exact zr_iret G hw hr hlocks hf hQ d_M_together_203
  have K194 : ∀ (x3 : Int32) (σ : zs_S) (H : Heap) (locs : List Loc) (ls : Array Slot), zf_M_together_194 F x3 σ = some q → zs_I 1 D cA ad A s σ H locs → lv_has ls 4 [(3, .int x3)] → W p l e RR s m args below meth c H locs 0 0 QQ (F0 m 194 ls []) := by
    intro  x3 σ H locs ls hf hw hl
    unfold zf_M_together_194 at hf
    refine lv_iload_n hx hb d_M_together_194 rfl (lv_at hl 0 rfl) ?_
    refine lv_if_eq hx hb d_M_together_195 (tgt := 202) rfl (fun hc => ?_) (fun hc => ?_)
    · have hf := (if_pos hc).symm.trans hf
      refine lv_iconst (v := 0) hx hb d_M_together_202 (by decide) ?_
      exact K203 0 σ H locs ls hf hw (lv_sub hl [] rfl)
    · have hf := (if_neg hc).symm.trans hf
      refine lv_iconst (v := 1) hx hb d_M_together_198 (by decide) ?_
      refine lv_goto hx hb d_M_together_199 (tgt := 203) rfl ?_
      exact K203 1 σ H locs ls hf hw (lv_sub hl [] rfl)
  have K193 : ∀ (t0 : Int32) (σ : zs_S) (H : Heap) (locs : List Loc) (ls : Array Slot), zf_M_together_193 F t0 σ = some q → zs_I 1 D cA ad A s σ H locs → lv_has ls 4 [] → W p l e RR s m args below meth c H locs 0 0 QQ (F0 m 193 ls [.int t0]) := by
    intro  t0 σ H locs ls hf hw hl
    unfold zf_M_together_193 at hf
    refine lv_istore_n hx hb d_M_together_193 rfl hl (by decide) rfl (fun ls hl => ?_)
    have hl : lv_has ls 4 [(3, .int t0)] := hl
    exact K194 t0 σ H locs ls hf hw (lv_sub hl [0] rfl)
  have K188 : ∀ (σ : zs_S) (H : Heap) (locs : List Loc) (ls : Array Slot), zf_M_together_188 F σ = some q → zs_I 1 D cA ad A s σ H locs → lv_has ls 4 [] → W p l e RR s m args below meth c H locs 0 0 QQ (F0 m 188 ls []) := by
    intro   σ H locs ls hf hw hl
    unfold zf_M_together_188 at hf
    refine lv_iconst (v := 1) hx hb d_M_together_188 (by decide) ?_
    refine lv_goto hx hb d_M_together_189 (tgt := 193) rfl ?_
    exact K193 1 σ H locs ls hf hw (lv_sub hl [] rfl)
  have K176 : ∀ (t0 : Int32) (σ : zs_S) (H : Heap) (locs : List Loc) (ls : Array Slot), zf_M_together_176 F t0 σ = some q → zs_I 1 D cA ad A s σ H locs → lv_has ls 4 [] → W p l e RR s m args below meth c H locs 0 0 QQ (F0 m 176 ls [.int t0]) := by
    intro  t0 σ H locs ls hf hw hl
    unfold zf_M_together_176 at hf
    refine lv_istore_n hx hb d_M_together_176 rfl hl (by decide) rfl (fun ls hl => ?_)
    have hl : lv_has ls 4 [(3, .int t0)] := hl
    refine lv_goto hx hb d_M_together_177 (tgt := 194) rfl ?_
    exact K194 t0 σ H locs ls hf hw (lv_sub hl [0] rfl)
  have K175 : ∀ (σ : zs_S) (H : Heap) (locs : List Loc) (ls : Array Slot), zf_M_together_175 F σ = some q → zs_I 1 D cA ad A s σ H locs → lv_has ls 4 [] → W p l e RR s m args below meth c H locs 0 0 QQ (F0 m 175 ls []) := by
    intro   σ H locs ls hf hw hl
    unfold zf_M_together_175 at hf
    refine lv_iconst (v := 0) hx hb d_M_together_175 (by decide) ?_
    exact K176 0 σ H locs ls hf hw (lv_sub hl [] rfl)
  have K159 : ∀ (t0 : Int32) (σ : zs_S) (H : Heap) (locs : List Loc) (ls : Array Slot), zf_M_together_159 F t0 σ = some q → zs_I 1 D cA ad A s σ H locs → lv_has ls 4 [] → W p l e RR s m args below meth c H locs 0 0 QQ (F0 m 159 ls [.int t0]) := by
    intro  t0 σ H locs ls hf hw hl
    unfold zf_M_together_159 at hf
    refine lv_istore_n hx hb d_M_together_159 rfl hl (by decide) rfl (fun ls hl => ?_)
    have hl : lv_has ls 4 [(3, .int t0)] := hl
    refine lv_goto hx hb d_M_together_160 (tgt := 194) rfl ?_
    exact K194 t0 σ H locs ls hf hw (lv_sub hl [0] rfl)
  have K145 : ∀ (t0 : Int32) (σ : zs_S) (H : Heap) (locs : List Loc) (ls : Array Slot), zf_M_together_145 F t0 σ = some q → zs_I 1 D cA ad A s σ H locs → lv_has ls 4 [] → W p l e RR s m args below meth c H locs 0 0 QQ (F0 m 145 ls [.int t0]) := by
    intro  t0 σ H locs ls hf hw hl
    unfold zf_M_together_145 at hf
    refine lv_istore_n hx hb d_M_together_145 rfl hl (by decide) rfl (fun ls hl => ?_)
    have hl : lv_has ls 4 [(3, .int t0)] := hl
    refine lv_goto hx hb d_M_together_146 (tgt := 194) rfl ?_
    exact K194 t0 σ H locs ls hf hw (lv_sub hl [0] rfl)
  have K131 : ∀ (t0 : Int32) (σ : zs_S) (H : Heap) (locs : List Loc) (ls : Array Slot), zf_M_together_131 F t0 σ = some q → zs_I 1 D cA ad A s σ H locs → lv_has ls 4 [] → W p l e RR s m args below meth c H locs 0 0 QQ (F0 m 131 ls [.int t0]) := by
    intro  t0 σ H locs ls hf hw hl
    unfold zf_M_together_131 at hf
    refine lv_istore_n hx hb d_M_together_131 rfl hl (by decide) rfl (fun ls hl => ?_)
    have hl : lv_has ls 4 [(3, .int t0)] := hl
    refine lv_goto hx hb d_M_together_132 (tgt := 194) rfl ?_
    exact K194 t0 σ H locs ls hf hw (lv_sub hl [0] rfl)
  have K117 : ∀ (t0 : Int32) (σ : zs_S) (H : Heap) (locs : List Loc) (ls : Array Slot), zf_M_together_117 F t0 σ = some q → zs_I 1 D cA ad A s σ H locs → lv_has ls 4 [] → W p l e RR s m args below meth c H locs 0 0 QQ (F0 m 117 ls [.int t0]) := by
    intro  t0 σ H locs ls hf hw hl
    unfold zf_M_together_117 at hf
    refine lv_istore_n hx hb d_M_together_117 rfl hl (by decide) rfl (fun ls hl => ?_)
    have hl : lv_has ls 4 [(3, .int t0)] := hl
    refine lv_goto hx hb d_M_together_118 (tgt := 194) rfl ?_
    exact K194 t0 σ H locs ls hf hw (lv_sub hl [0] rfl)
  have K103 : ∀ (t0 : Int32) (σ : zs_S) (H : Heap) (locs : List Loc) (ls : Array Slot), zf_M_together_103 F t0 σ = some q → zs_I 1 D cA ad A s σ H locs → lv_has ls 4 [] → W p l e RR s m args below meth c H locs 0 0 QQ (F0 m 103 ls [.int t0]) := by
    intro  t0 σ H locs ls hf hw hl
    unfold zf_M_together_103 at hf
    refine lv_istore_n hx hb d_M_together_103 rfl hl (by decide) rfl (fun ls hl => ?_)
    have hl : lv_has ls 4 [(3, .int t0)] := hl
    refine lv_goto hx hb d_M_together_104 (tgt := 194) rfl ?_
    exact K194 t0 σ H locs ls hf hw (lv_sub hl [0] rfl)
  have K89 : ∀ (t0 : Int32) (σ : zs_S) (H : Heap) (locs : List Loc) (ls : Array Slot), zf_M_together_89 F t0 σ = some q → zs_I 1 D cA ad A s σ H locs → lv_has ls 4 [] → W p l e RR s m args below meth c H locs 0 0 QQ (F0 m 89 ls [.int t0]) := by
    intro  t0 σ H locs ls hf hw hl
    unfold zf_M_together_89 at hf
    refine lv_istore_n hx hb d_M_together_89 rfl hl (by decide) rfl (fun ls hl => ?_)
    have hl : lv_has ls 4 [(3, .int t0)] := hl
    refine lv_goto hx hb d_M_together_90 (tgt := 194) rfl ?_
    exact K194 t0 σ H locs ls hf hw (lv_sub hl [0] rfl)
  unfold zf_M_together at hf
  refine lv_iload_n hx hb d_M_together_0 rfl (lv_at hl 0 rfl) ?_
  by_cases hc3 : x0 = 3
  · have hf := (if_pos hc3).symm.trans hf
    refine lv_tableIn hx hb d_M_together_1 (tgt := 64) (by rw [hc3]; decide) (by rw [hc3]; decide) (by rw [hc3]; rfl) rfl ?_
    refine lv_iload_n hx hb d_M_together_64 rfl (lv_at hl 1 rfl) ?_
    refine lv_iload_n hx hb d_M_together_65 rfl (lv_at hl 2 rfl) ?_
    refine lv_iadd hx hb d_M_together_66 ?_
    refine lv_i2b hx hb d_M_together_67 rfl ?_
    exact zr_iret G hw hr hlocks hf hQ d_M_together_68
  have hf := (if_neg hc3).symm.trans hf
  by_cases hc4 : x0 = 4
  · have hf := (if_pos hc4).symm.trans hf
    refine lv_tableIn hx hb d_M_together_1 (tgt := 69) (by rw [hc4]; decide) (by rw [hc4]; decide) (by rw [hc4]; rfl) rfl ?_
    refine lv_iload_n hx hb d_M_together_69 rfl (lv_at hl 1 rfl) ?_
    refine lv_iload_n hx hb d_M_together_70 rfl (lv_at hl 2 rfl) ?_
    refine lv_isub hx hb d_M_together_71 ?_
    refine lv_i2b hx hb d_M_together_72 rfl ?_
    exact zr_iret G hw hr hlocks hf hQ d_M_together_73
  have hf := (if_neg hc4).symm.trans hf
  by_cases hc5 : x0 = 5
  · have hf := (if_pos hc5).symm.trans hf
    refine lv_tableIn hx hb d_M_together_1 (tgt := 74) (by rw [hc5]; decide) (by rw [hc5]; decide) (by rw [hc5]; rfl) rfl ?_
    refine lv_iload_n hx hb d_M_together_74 rfl (lv_at hl 1 rfl) ?_
    refine lv_iload_n hx hb d_M_together_75 rfl (lv_at hl 2 rfl) ?_
    refine lv_imul hx hb d_M_together_76 ?_
    refine lv_i2b hx hb d_M_together_77 rfl ?_
    exact zr_iret G hw hr hlocks hf hQ d_M_together_78
  have hf := (if_neg hc5).symm.trans hf
  by_cases hc6 : x0 = 6
  · have hf := (if_pos hc6).symm.trans hf
    refine lv_tableIn hx hb d_M_together_1 (tgt := 180) (by rw [hc6]; decide) (by rw [hc6]; decide) (by rw [hc6]; rfl) rfl ?_
    refine lv_iload_n hx hb d_M_together_180 rfl (lv_at hl 1 rfl) ?_
    refine lv_if_ne hx hb d_M_together_181 (tgt := 188) rfl (fun hc => ?_) (fun hc => ?_)
    · have hf := (if_neg hc).symm.trans hf
      exact K188 σ H locs ls hf hw (lv_sub hl [] rfl)
    · have hf := (if_pos hc).symm.trans hf
      refine lv_iload_n hx hb d_M_together_184 rfl (lv_at hl 2 rfl) ?_
      refine lv_if_eq hx hb d_M_together_185 (tgt := 192) rfl (fun hc => ?_) (fun hc => ?_)
      · have hf := (if_pos hc).symm.trans hf
        refine lv_iconst (v := 0) hx hb d_M_together_192 (by decide) ?_
        exact K193 0 σ H locs ls hf hw (lv_sub hl [] rfl)
      · have hf := (if_neg hc).symm.trans hf
        exact K188 σ H locs ls hf hw (lv_sub hl [] rfl)
  have hf := (if_neg hc6).symm.trans hf
  by_cases hc7 : x0 = 7
  · have hf := (if_pos hc7).symm.trans hf
    refine lv_tableIn hx hb d_M_together_1 (tgt := 180) (by rw [hc7]; decide) (by rw [hc7]; decide) (by rw [hc7]; rfl) rfl ?_
    refine lv_iload_n hx hb d_M_together_180 rfl (lv_at hl 1 rfl) ?_
    refine lv_if_ne hx hb d_M_together_181 (tgt := 188) rfl (fun hc => ?_) (fun hc => ?_)
    · have hf := (if_neg hc).symm.trans hf
      exact K188 σ H locs ls hf hw (lv_sub hl [] rfl)
    · have hf := (if_pos hc).symm.trans hf
      refine lv_iload_n hx hb d_M_together_184 rfl (lv_at hl 2 rfl) ?_
      refine lv_if_eq hx hb d_M_together_185 (tgt := 192) rfl (fun hc => ?_) (fun hc => ?_)
      · have hf := (if_pos hc).symm.trans hf
        refine lv_iconst (v := 0) hx hb d_M_together_192 (by decide) ?_
        exact K193 0 σ H locs ls hf hw (lv_sub hl [] rfl)
      · have hf := (if_neg hc).symm.trans hf
        exact K188 σ H locs ls hf hw (lv_sub hl [] rfl)
  have hf := (if_neg hc7).symm.trans hf
  by_cases hc8 : x0 = 8
  · have hf := (if_pos hc8).symm.trans hf
    refine lv_tableIn hx hb d_M_together_1 (tgt := 79) (by rw [hc8]; decide) (by rw [hc8]; decide) (by rw [hc8]; rfl) rfl ?_
    refine lv_iload_n hx hb d_M_together_79 rfl (lv_at hl 1 rfl) ?_
    refine lv_iload_n hx hb d_M_together_80 rfl (lv_at hl 2 rfl) ?_
    refine lv_icmp_ne hx hb d_M_together_81 (tgt := 88) rfl (fun hc => ?_) (fun hc => ?_)
    · have hf := (if_neg hc).symm.trans hf
      refine lv_iconst (v := 0) hx hb d_M_together_88 (by decide) ?_
      exact K89 0 σ H locs ls hf hw (lv_sub hl [] rfl)
    · have hf := (if_pos hc).symm.trans hf
      refine lv_iconst (v := 1) hx hb d_M_together_84 (by decide) ?_
      refine lv_goto hx hb d_M_together_85 (tgt := 89) rfl ?_
      exact K89 1 σ H locs ls hf hw (lv_sub hl [] rfl)
  have hf := (if_neg hc8).symm.trans hf
  by_cases hc9 : x0 = 9
  · have hf := (if_pos hc9).symm.trans hf
    refine lv_tableIn hx hb d_M_together_1 (tgt := 93) (by rw [hc9]; decide) (by rw [hc9]; decide) (by rw [hc9]; rfl) rfl ?_
    refine lv_iload_n hx hb d_M_together_93 rfl (lv_at hl 1 rfl) ?_
    refine lv_iload_n hx hb d_M_together_94 rfl (lv_at hl 2 rfl) ?_
    refine lv_icmp_eq hx hb d_M_together_95 (tgt := 102) rfl (fun hc => ?_) (fun hc => ?_)
    · have hf := (if_pos hc).symm.trans hf
      refine lv_iconst (v := 0) hx hb d_M_together_102 (by decide) ?_
      exact K103 0 σ H locs ls hf hw (lv_sub hl [] rfl)
    · have hf := (if_neg hc).symm.trans hf
      refine lv_iconst (v := 1) hx hb d_M_together_98 (by decide) ?_
      refine lv_goto hx hb d_M_together_99 (tgt := 103) rfl ?_
      exact K103 1 σ H locs ls hf hw (lv_sub hl [] rfl)
  have hf := (if_neg hc9).symm.trans hf
  by_cases hc10 : x0 = 10
  · have hf := (if_pos hc10).symm.trans hf
    refine lv_tableIn hx hb d_M_together_1 (tgt := 107) (by rw [hc10]; decide) (by rw [hc10]; decide) (by rw [hc10]; rfl) rfl ?_
    refine lv_iload_n hx hb d_M_together_107 rfl (lv_at hl 1 rfl) ?_
    refine lv_iload_n hx hb d_M_together_108 rfl (lv_at hl 2 rfl) ?_
    refine lv_icmp_ge hx hb d_M_together_109 (tgt := 116) rfl (fun hc => ?_) (fun hc => ?_)
    · have hf := (if_pos hc).symm.trans hf
      refine lv_iconst (v := 0) hx hb d_M_together_116 (by decide) ?_
      exact K117 0 σ H locs ls hf hw (lv_sub hl [] rfl)
    · have hf := (if_neg hc).symm.trans hf
      refine lv_iconst (v := 1) hx hb d_M_together_112 (by decide) ?_
      refine lv_goto hx hb d_M_together_113 (tgt := 117) rfl ?_
      exact K117 1 σ H locs ls hf hw (lv_sub hl [] rfl)
  have hf := (if_neg hc10).symm.trans hf
  by_cases hc11 : x0 = 11
  · have hf := (if_pos hc11).symm.trans hf
    refine lv_tableIn hx hb d_M_together_1 (tgt := 121) (by rw [hc11]; decide) (by rw [hc11]; decide) (by rw [hc11]; rfl) rfl ?_
    refine lv_iload_n hx hb d_M_together_121 rfl (lv_at hl 1 rfl) ?_
    refine lv_iload_n hx hb d_M_together_122 rfl (lv_at hl 2 rfl) ?_
    refine lv_icmp_gt hx hb d_M_together_123 (tgt := 130) rfl (fun hc => ?_) (fun hc => ?_)
    · have hf := (if_pos hc).symm.trans hf
      refine lv_iconst (v := 0) hx hb d_M_together_130 (by decide) ?_
      exact K131 0 σ H locs ls hf hw (lv_sub hl [] rfl)
    · have hf := (if_neg hc).symm.trans hf
      refine lv_iconst (v := 1) hx hb d_M_together_126 (by decide) ?_
      refine lv_goto hx hb d_M_together_127 (tgt := 131) rfl ?_
      exact K131 1 σ H locs ls hf hw (lv_sub hl [] rfl)
  have hf := (if_neg hc11).symm.trans hf
  by_cases hc12 : x0 = 12
  · have hf := (if_pos hc12).symm.trans hf
    refine lv_tableIn hx hb d_M_together_1 (tgt := 135) (by rw [hc12]; decide) (by rw [hc12]; decide) (by rw [hc12]; rfl) rfl ?_
    refine lv_iload_n hx hb d_M_together_135 rfl (lv_at hl 1 rfl) ?_
    refine lv_iload_n hx hb d_M_together_136 rfl (lv_at hl 2 rfl) ?_
    refine lv_icmp_le hx hb d_M_together_137 (tgt := 144) rfl (fun hc => ?_) (fun hc => ?_)
    · have hf := (if_pos hc).symm.trans hf
      refine lv_iconst (v := 0) hx hb d_M_together_144 (by decide) ?_
      exact K145 0 σ H locs ls hf hw (lv_sub hl [] rfl)
    · have hf := (if_neg hc).symm.trans hf
      refine lv_iconst (v := 1) hx hb d_M_together_140 (by decide) ?_
      refine lv_goto hx hb d_M_together_141 (tgt := 145) rfl ?_
      exact K145 1 σ H locs ls hf hw (lv_sub hl [] rfl)
  have hf := (if_neg hc12).symm.trans hf
  by_cases hc13 : x0 = 13
  · have hf := (if_pos hc13).symm.trans hf
    refine lv_tableIn hx hb d_M_together_1 (tgt := 149) (by rw [hc13]; decide) (by rw [hc13]; decide) (by rw [hc13]; rfl) rfl ?_
    refine lv_iload_n hx hb d_M_together_149 rfl (lv_at hl 1 rfl) ?_
    refine lv_iload_n hx hb d_M_together_150 rfl (lv_at hl 2 rfl) ?_
    refine lv_icmp_lt hx hb d_M_together_151 (tgt := 158) rfl (fun hc => ?_) (fun hc => ?_)
    · have hf := (if_pos hc).symm.trans hf
      refine lv_iconst (v := 0) hx hb d_M_together_158 (by decide) ?_
      exact K159 0 σ H locs ls hf hw (lv_sub hl [] rfl)
    · have hf := (if_neg hc).symm.trans hf
      refine lv_iconst (v := 1) hx hb d_M_together_154 (by decide) ?_
      refine lv_goto hx hb d_M_together_155 (tgt := 159) rfl ?_
      exact K159 1 σ H locs ls hf hw (lv_sub hl [] rfl)
  have hf := (if_neg hc13).symm.trans hf
  by_cases hc14 : x0 = 14
  · have hf := (if_pos hc14).symm.trans hf
    refine lv_tableIn hx hb d_M_together_1 (tgt := 163) (by rw [hc14]; decide) (by rw [hc14]; decide) (by rw [hc14]; rfl) rfl ?_
    refine lv_iload_n hx hb d_M_together_163 rfl (lv_at hl 1 rfl) ?_
    refine lv_if_eq hx hb d_M_together_164 (tgt := 175) rfl (fun hc => ?_) (fun hc => ?_)
    · have hf := (if_pos hc).symm.trans hf
      exact K175 σ H locs ls hf hw (lv_sub hl [] rfl)
    · have hf := (if_neg hc).symm.trans hf
      refine lv_iload_n hx hb d_M_together_167 rfl (lv_at hl 2 rfl) ?_
      refine lv_if_eq hx hb d_M_together_168 (tgt := 175) rfl (fun hc => ?_) (fun hc => ?_)
      · have hf := (if_pos hc).symm.trans hf
        exact K175 σ H locs ls hf hw (lv_sub hl [] rfl)
      · have hf := (if_neg hc).symm.trans hf
        refine lv_iconst (v := 1) hx hb d_M_together_171 (by decide) ?_
        refine lv_goto hx hb d_M_together_172 (tgt := 176) rfl ?_
        exact K176 1 σ H locs ls hf hw (lv_sub hl [] rfl)
  have hf := (if_neg hc14).symm.trans hf
  refine lv_tableOut hx hb d_M_together_1 (tgt := 180) (by have g3 := zq_o1 (lo := 3) (by decide) hc3; have g4 := zq_o1 (lo := 4) (by decide) hc4; have g5 := zq_o1 (lo := 5) (by decide) hc5; have g6 := zq_o1 (lo := 6) (by decide) hc6; have g7 := zq_o1 (lo := 7) (by decide) hc7; have g8 := zq_o1 (lo := 8) (by decide) hc8; have g9 := zq_o1 (lo := 9) (by decide) hc9; have g10 := zq_o1 (lo := 10) (by decide) hc10; have g11 := zq_o1 (lo := 11) (by decide) hc11; have g12 := zq_o1 (lo := 12) (by decide) hc12; have g13 := zq_o1 (lo := 13) (by decide) hc13; have g14 := zq_o1 (lo := 14) (by decide) hc14; omega) rfl ?_
  refine lv_iload_n hx hb d_M_together_180 rfl (lv_at hl 1 rfl) ?_
  refine lv_if_ne hx hb d_M_together_181 (tgt := 188) rfl (fun hc => ?_) (fun hc => ?_)
  · have hf := (if_neg hc).symm.trans hf
    exact K188 σ H locs ls hf hw (lv_sub hl [] rfl)
  · have hf := (if_pos hc).symm.trans hf
    refine lv_iload_n hx hb d_M_together_184 rfl (lv_at hl 2 rfl) ?_
    refine lv_if_eq hx hb d_M_together_185 (tgt := 192) rfl (fun hc => ?_) (fun hc => ?_)
    · have hf := (if_pos hc).symm.trans hf
      refine lv_iconst (v := 0) hx hb d_M_together_192 (by decide) ?_
      exact K193 0 σ H locs ls hf hw (lv_sub hl [] rfl)
    · have hf := (if_neg hc).symm.trans hf
      exact K188 σ H locs ls hf hw (lv_sub hl [] rfl)
/-! ScheduleCheckModel.reckon -/
def y_M_reckon : MethodName := ⟨"ScheduleCheckModel","reckon","(II)I"⟩
theorem d_M_reckon_0 : decode prog_13_method_28_code 0 = .ok (.iconst 0, 1) := by decide +kernel
theorem d_M_reckon_1 : decode prog_13_method_28_code 1 = .ok (.istore_n 3, 1) := by decide +kernel
theorem d_M_reckon_2 : decode prog_13_method_28_code 2 = .ok (.iload_n 2, 1) := by decide +kernel
theorem d_M_reckon_3 : decode prog_13_method_28_code 3 = .ok (.istore 4, 2) := by decide +kernel
theorem d_M_reckon_5 : decode prog_13_method_28_code 5 = .ok (.aload_n 0, 1) := by decide +kernel
theorem d_M_reckon_6 : decode prog_13_method_28_code 6 = .ok (.getfield 16, 3) := by decide +kernel
theorem d_M_reckon_9 : decode prog_13_method_28_code 9 = .ok (.getfield 247, 3) := by decide +kernel
theorem d_M_reckon_12 : decode prog_13_method_28_code 12 = .ok (.iload 4, 2) := by decide +kernel
theorem d_M_reckon_14 : decode prog_13_method_28_code 14 = .ok (.iaload, 1) := by decide +kernel
theorem d_M_reckon_15 : decode prog_13_method_28_code 15 = .ok (.bipush 16, 2) := by decide +kernel
theorem d_M_reckon_17 : decode prog_13_method_28_code 17 = .ok (.if_icmp .eq 183, 3) := by decide +kernel
theorem d_M_reckon_20 : decode prog_13_method_28_code 20 = .ok (.aload_n 0, 1) := by decide +kernel
theorem d_M_reckon_21 : decode prog_13_method_28_code 21 = .ok (.getfield 16, 3) := by decide +kernel
theorem d_M_reckon_24 : decode prog_13_method_28_code 24 = .ok (.getfield 247, 3) := by decide +kernel
theorem d_M_reckon_27 : decode prog_13_method_28_code 27 = .ok (.iload 4, 2) := by decide +kernel
theorem d_M_reckon_29 : decode prog_13_method_28_code 29 = .ok (.iaload, 1) := by decide +kernel
theorem d_M_reckon_30 : decode prog_13_method_28_code 30 = .ok (.istore 5, 2) := by decide +kernel
theorem d_M_reckon_32 : decode prog_13_method_28_code 32 = .ok (.iload 5, 2) := by decide +kernel
theorem d_M_reckon_34 : decode prog_13_method_28_code 34 = .ok (.iconst 2, 1) := by decide +kernel
theorem d_M_reckon_35 : decode prog_13_method_28_code 35 = .ok (.if_icmp .gt 68, 3) := by decide +kernel
theorem d_M_reckon_38 : decode prog_13_method_28_code 38 = .ok (.iinc 4 1, 3) := by decide +kernel
theorem d_M_reckon_41 : decode prog_13_method_28_code 41 = .ok (.aload_n 0, 1) := by decide +kernel
theorem d_M_reckon_42 : decode prog_13_method_28_code 42 = .ok (.getfield 16, 3) := by decide +kernel
theorem d_M_reckon_45 : decode prog_13_method_28_code 45 = .ok (.getfield 247, 3) := by decide +kernel
theorem d_M_reckon_48 : decode prog_13_method_28_code 48 = .ok (.iload 4, 2) := by decide +kernel
theorem d_M_reckon_50 : decode prog_13_method_28_code 50 = .ok (.iaload, 1) := by decide +kernel
theorem d_M_reckon_51 : decode prog_13_method_28_code 51 = .ok (.istore 6, 2) := by decide +kernel
theorem d_M_reckon_53 : decode prog_13_method_28_code 53 = .ok (.aload_n 0, 1) := by decide +kernel
theorem d_M_reckon_54 : decode prog_13_method_28_code 54 = .ok (.getfield 51, 3) := by decide +kernel
theorem d_M_reckon_57 : decode prog_13_method_28_code 57 = .ok (.iload_n 3, 1) := by decide +kernel
theorem d_M_reckon_58 : decode prog_13_method_28_code 58 = .ok (.iload 5, 2) := by decide +kernel
theorem d_M_reckon_60 : decode prog_13_method_28_code 60 = .ok (.ifCond .ne 8, 3) := by decide +kernel
theorem d_M_reckon_63 : decode prog_13_method_28_code 63 = .ok (.iload 6, 2) := by decide +kernel
theorem d_M_reckon_65 : decode prog_13_method_28_code 65 = .ok (.goto 31, 3) := by decide +kernel
theorem d_M_reckon_68 : decode prog_13_method_28_code 68 = .ok (.iload 5, 2) := by decide +kernel
theorem d_M_reckon_70 : decode prog_13_method_28_code 70 = .ok (.iconst 1, 1) := by decide +kernel
theorem d_M_reckon_71 : decode prog_13_method_28_code 71 = .ok (.if_icmp .ne 13, 3) := by decide +kernel
theorem d_M_reckon_74 : decode prog_13_method_28_code 74 = .ok (.aload_n 0, 1) := by decide +kernel
theorem d_M_reckon_75 : decode prog_13_method_28_code 75 = .ok (.getfield 45, 3) := by decide +kernel
theorem d_M_reckon_78 : decode prog_13_method_28_code 78 = .ok (.iload 6, 2) := by decide +kernel
theorem d_M_reckon_80 : decode prog_13_method_28_code 80 = .ok (.iaload, 1) := by decide +kernel
theorem d_M_reckon_81 : decode prog_13_method_28_code 81 = .ok (.goto 15, 3) := by decide +kernel
theorem d_M_reckon_84 : decode prog_13_method_28_code 84 = .ok (.aload_n 0, 1) := by decide +kernel
theorem d_M_reckon_85 : decode prog_13_method_28_code 85 = .ok (.getfield 45, 3) := by decide +kernel
theorem d_M_reckon_88 : decode prog_13_method_28_code 88 = .ok (.iload_n 1, 1) := by decide +kernel
theorem d_M_reckon_89 : decode prog_13_method_28_code 89 = .ok (.invokestatic 296, 3) := by decide +kernel
theorem d_M_reckon_92 : decode prog_13_method_28_code 92 = .ok (.iload 6, 2) := by decide +kernel
theorem d_M_reckon_94 : decode prog_13_method_28_code 94 = .ok (.iadd, 1) := by decide +kernel
theorem d_M_reckon_95 : decode prog_13_method_28_code 95 = .ok (.iaload, 1) := by decide +kernel
theorem d_M_reckon_96 : decode prog_13_method_28_code 96 = .ok (.iastore, 1) := by decide +kernel
theorem d_M_reckon_97 : decode prog_13_method_28_code 97 = .ok (.iinc 3 1, 3) := by decide +kernel
theorem d_M_reckon_100 : decode prog_13_method_28_code 100 = .ok (.goto 94, 3) := by decide +kernel
theorem d_M_reckon_103 : decode prog_13_method_28_code 103 = .ok (.iload 5, 2) := by decide +kernel
theorem d_M_reckon_105 : decode prog_13_method_28_code 105 = .ok (.bipush 6, 2) := by decide +kernel
theorem d_M_reckon_107 : decode prog_13_method_28_code 107 = .ok (.if_icmp .eq 10, 3) := by decide +kernel
theorem d_M_reckon_110 : decode prog_13_method_28_code 110 = .ok (.iload 5, 2) := by decide +kernel
theorem d_M_reckon_112 : decode prog_13_method_28_code 112 = .ok (.bipush 7, 2) := by decide +kernel
theorem d_M_reckon_114 : decode prog_13_method_28_code 114 = .ok (.if_icmp .ne 50, 3) := by decide +kernel
theorem d_M_reckon_117 : decode prog_13_method_28_code 117 = .ok (.aload_n 0, 1) := by decide +kernel
theorem d_M_reckon_118 : decode prog_13_method_28_code 118 = .ok (.getfield 51, 3) := by decide +kernel
theorem d_M_reckon_121 : decode prog_13_method_28_code 121 = .ok (.iload_n 3, 1) := by decide +kernel
theorem d_M_reckon_122 : decode prog_13_method_28_code 122 = .ok (.iconst 1, 1) := by decide +kernel
theorem d_M_reckon_123 : decode prog_13_method_28_code 123 = .ok (.isub, 1) := by decide +kernel
theorem d_M_reckon_124 : decode prog_13_method_28_code 124 = .ok (.iload 5, 2) := by decide +kernel
theorem d_M_reckon_126 : decode prog_13_method_28_code 126 = .ok (.bipush 6, 2) := by decide +kernel
theorem d_M_reckon_128 : decode prog_13_method_28_code 128 = .ok (.if_icmp .ne 16, 3) := by decide +kernel
theorem d_M_reckon_131 : decode prog_13_method_28_code 131 = .ok (.aload_n 0, 1) := by decide +kernel
theorem d_M_reckon_132 : decode prog_13_method_28_code 132 = .ok (.getfield 51, 3) := by decide +kernel
theorem d_M_reckon_135 : decode prog_13_method_28_code 135 = .ok (.iload_n 3, 1) := by decide +kernel
theorem d_M_reckon_136 : decode prog_13_method_28_code 136 = .ok (.iconst 1, 1) := by decide +kernel
theorem d_M_reckon_137 : decode prog_13_method_28_code 137 = .ok (.isub, 1) := by decide +kernel
theorem d_M_reckon_138 : decode prog_13_method_28_code 138 = .ok (.iaload, 1) := by decide +kernel
theorem d_M_reckon_139 : decode prog_13_method_28_code 139 = .ok (.ineg, 1) := by decide +kernel
theorem d_M_reckon_140 : decode prog_13_method_28_code 140 = .ok (.i2b, 1) := by decide +kernel
theorem d_M_reckon_141 : decode prog_13_method_28_code 141 = .ok (.goto 19, 3) := by decide +kernel
theorem d_M_reckon_144 : decode prog_13_method_28_code 144 = .ok (.aload_n 0, 1) := by decide +kernel
theorem d_M_reckon_145 : decode prog_13_method_28_code 145 = .ok (.getfield 51, 3) := by decide +kernel
theorem d_M_reckon_148 : decode prog_13_method_28_code 148 = .ok (.iload_n 3, 1) := by decide +kernel
theorem d_M_reckon_149 : decode prog_13_method_28_code 149 = .ok (.iconst 1, 1) := by decide +kernel
theorem d_M_reckon_150 : decode prog_13_method_28_code 150 = .ok (.isub, 1) := by decide +kernel
theorem d_M_reckon_151 : decode prog_13_method_28_code 151 = .ok (.iaload, 1) := by decide +kernel
theorem d_M_reckon_152 : decode prog_13_method_28_code 152 = .ok (.ifCond .ne 7, 3) := by decide +kernel
theorem d_M_reckon_155 : decode prog_13_method_28_code 155 = .ok (.iconst 1, 1) := by decide +kernel
theorem d_M_reckon_156 : decode prog_13_method_28_code 156 = .ok (.goto 4, 3) := by decide +kernel
theorem d_M_reckon_159 : decode prog_13_method_28_code 159 = .ok (.iconst 0, 1) := by decide +kernel
theorem d_M_reckon_160 : decode prog_13_method_28_code 160 = .ok (.iastore, 1) := by decide +kernel
theorem d_M_reckon_161 : decode prog_13_method_28_code 161 = .ok (.goto 33, 3) := by decide +kernel
theorem d_M_reckon_164 : decode prog_13_method_28_code 164 = .ok (.iinc 3 (-1), 3) := by decide +kernel
theorem d_M_reckon_167 : decode prog_13_method_28_code 167 = .ok (.aload_n 0, 1) := by decide +kernel
theorem d_M_reckon_168 : decode prog_13_method_28_code 168 = .ok (.getfield 51, 3) := by decide +kernel
theorem d_M_reckon_171 : decode prog_13_method_28_code 171 = .ok (.iload_n 3, 1) := by decide +kernel
theorem d_M_reckon_172 : decode prog_13_method_28_code 172 = .ok (.iconst 1, 1) := by decide +kernel
theorem d_M_reckon_173 : decode prog_13_method_28_code 173 = .ok (.isub, 1) := by decide +kernel
theorem d_M_reckon_174 : decode prog_13_method_28_code 174 = .ok (.iload 5, 2) := by decide +kernel
theorem d_M_reckon_176 : decode prog_13_method_28_code 176 = .ok (.aload_n 0, 1) := by decide +kernel
theorem d_M_reckon_177 : decode prog_13_method_28_code 177 = .ok (.getfield 51, 3) := by decide +kernel
theorem d_M_reckon_180 : decode prog_13_method_28_code 180 = .ok (.iload_n 3, 1) := by decide +kernel
theorem d_M_reckon_181 : decode prog_13_method_28_code 181 = .ok (.iconst 1, 1) := by decide +kernel
theorem d_M_reckon_182 : decode prog_13_method_28_code 182 = .ok (.isub, 1) := by decide +kernel
theorem d_M_reckon_183 : decode prog_13_method_28_code 183 = .ok (.iaload, 1) := by decide +kernel
theorem d_M_reckon_184 : decode prog_13_method_28_code 184 = .ok (.aload_n 0, 1) := by decide +kernel
theorem d_M_reckon_185 : decode prog_13_method_28_code 185 = .ok (.getfield 51, 3) := by decide +kernel
theorem d_M_reckon_188 : decode prog_13_method_28_code 188 = .ok (.iload_n 3, 1) := by decide +kernel
theorem d_M_reckon_189 : decode prog_13_method_28_code 189 = .ok (.iaload, 1) := by decide +kernel
theorem d_M_reckon_190 : decode prog_13_method_28_code 190 = .ok (.invokestatic 300, 3) := by decide +kernel
theorem d_M_reckon_193 : decode prog_13_method_28_code 193 = .ok (.iastore, 1) := by decide +kernel
theorem d_M_reckon_194 : decode prog_13_method_28_code 194 = .ok (.iinc 4 1, 3) := by decide +kernel
theorem d_M_reckon_197 : decode prog_13_method_28_code 197 = .ok (.goto (-192), 3) := by decide +kernel
theorem d_M_reckon_200 : decode prog_13_method_28_code 200 = .ok (.aload_n 0, 1) := by decide +kernel
theorem d_M_reckon_201 : decode prog_13_method_28_code 201 = .ok (.getfield 51, 3) := by decide +kernel
theorem d_M_reckon_204 : decode prog_13_method_28_code 204 = .ok (.iconst 0, 1) := by decide +kernel
theorem d_M_reckon_205 : decode prog_13_method_28_code 205 = .ok (.iaload, 1) := by decide +kernel
theorem d_M_reckon_206 : decode prog_13_method_28_code 206 = .ok (.ireturn, 1) := by decide +kernel
def zf_M_reckon_194 (F : Nat) (k5 : Int32 → Int32 → Int32 → zs_S → Option (Int32 × zs_S)) (x1 : Int32) (x3 : Int32) (x4 : Int32) (σ : zs_S) : Option (Int32 × zs_S) :=
  zq_v (x4 + 1) fun v38 =>
  k5 x1 x3 v38 σ
def zf_M_reckon_160 (F : Nat) (k5 : Int32 → Int32 → Int32 → zs_S → Option (Int32 × zs_S)) (x1 : Int32) (x3 : Int32) (x4 : Int32) (t0 : Int32) (t1 : Int32) (σ : zs_S) : Option (Int32 × zs_S) :=
  zq_g (zq_b t1 166) <|
  zq_v (zs_wi σ 66 ((t1).toNatClampNeg) t0) fun σ40 =>
  zf_M_reckon_194 F k5 x1 x3 x4 σ40
def zf_M_reckon_117 (F : Nat) (k5 : Int32 → Int32 → Int32 → zs_S → Option (Int32 × zs_S)) (x1 : Int32) (x3 : Int32) (x4 : Int32) (x5 : Int32) (σ : zs_S) : Option (Int32 × zs_S) :=
  if x5 = 6 then (
    zq_g (zq_b (x3 - 1) 166) <|
    zf_M_reckon_160 F k5 x1 x3 x4 (((-(zs_i σ 66 (x3 - 1).toNatClampNeg) : Int32)).toInt8.toInt32) (x3 - 1) σ
  ) else (
    zq_g (zq_b (x3 - 1) 166) <|
    if (zs_i σ 66 (x3 - 1).toNatClampNeg) = 0 then (
      zf_M_reckon_160 F k5 x1 x3 x4 1 (x3 - 1) σ
    ) else (
      zf_M_reckon_160 F k5 x1 x3 x4 0 (x3 - 1) σ
    )
  )
def zf_M_reckon_96 (F : Nat) (k5 : Int32 → Int32 → Int32 → zs_S → Option (Int32 × zs_S)) (x1 : Int32) (x3 : Int32) (x4 : Int32) (t0 : Int32) (t1 : Int32) (σ : zs_S) : Option (Int32 × zs_S) :=
  zq_g (zq_b t1 166) <|
  zq_v (zs_wi σ 66 ((t1).toNatClampNeg) t0) fun σ34 =>
  zq_v (x3 + 1) fun v35 =>
  zf_M_reckon_194 F k5 x1 v35 x4 σ34
def zf_M_reckon_5 (F : Nat)  : Nat → Int32 → Int32 → Int32 → zs_S → Option (Int32 × zs_S)
  | 0, _, _, _, _ => none
  | n + 1, x1, x3, x4, σ =>
    zq_q (zs_r σ 1 2) fun q1 =>
    zq_g (zq_k 1 q1 19) <|
    zq_q (zd_rf 1 q1 11) fun q3 =>
    zq_g (zq_k 1 q3 0) <|
    zq_g (zq_b x4 (zd_sh 1 q3).2) <|
    if (zs_i σ q3 (x4).toNatClampNeg) = 16 then (
      zq_g (zq_b 0 166) <|
      some (zs_i σ 66 (0 : Int32).toNatClampNeg, σ)
    ) else (
      zq_q (zs_r σ 1 2) fun q7 =>
      zq_g (zq_k 1 q7 19) <|
      zq_q (zd_rf 1 q7 11) fun q9 =>
      zq_g (zq_k 1 q9 0) <|
      zq_g (zq_b x4 (zd_sh 1 q9).2) <|
      zq_v (zs_i σ q9 (x4).toNatClampNeg) fun v12 =>
      if 2 < v12 then (
        if v12 = 6 then (
          zf_M_reckon_117 F (zf_M_reckon_5 F n) x1 x3 x4 v12 σ
        ) else (
          if v12 = 7 then (
            zf_M_reckon_117 F (zf_M_reckon_5 F n) x1 x3 x4 v12 σ
          ) else (
            zq_v (x3 + (-1)) fun v13 =>
            zq_g (zq_b (v13 - 1) 166) <|
            zq_g (zq_b v13 166) <|
            zq_c (zf_M_together F v12 (zs_i σ 66 (v13 - 1).toNatClampNeg) (zs_i σ 66 (v13).toNatClampNeg) σ) fun r17 σ16 =>
            zq_g (zq_b (v13 - 1) 166) <|
            zq_v (zs_wi σ16 66 ((v13 - 1).toNatClampNeg) r17) fun σ20 =>
            zf_M_reckon_194 F (zf_M_reckon_5 F n) x1 v13 x4 σ20
          )
        )
      ) else (
        zq_v (x4 + 1) fun v21 =>
        zq_q (zs_r σ 1 2) fun q22 =>
        zq_g (zq_k 1 q22 19) <|
        zq_q (zd_rf 1 q22 11) fun q24 =>
        zq_g (zq_k 1 q24 0) <|
        zq_g (zq_b v21 (zd_sh 1 q24).2) <|
        zq_v (zs_i σ q24 (v21).toNatClampNeg) fun v27 =>
        if v12 = 0 then (
          zf_M_reckon_96 F (zf_M_reckon_5 F n) x1 x3 v21 v27 x3 σ
        ) else (
          if v12 = 1 then (
            zq_g (zq_b v27 34) <|
            zf_M_reckon_96 F (zf_M_reckon_5 F n) x1 x3 v21 (zs_i σ 64 (v27).toNatClampNeg) x3 σ
          ) else (
            zq_c (zf_M_each F x1 σ) fun r29 σ28 =>
            zq_g (zq_b (r29 + v27) 34) <|
            zf_M_reckon_96 F (zf_M_reckon_5 F n) x1 x3 v21 (zs_i σ28 64 (r29 + v27).toNatClampNeg) x3 σ28
          )
        )
      )
    )
def zf_M_reckon (F : Nat) (x1 : Int32) (x2 : Int32) (σ : zs_S) : Option (Int32 × zs_S) :=
  zf_M_reckon_5 F F x1 0 x2 σ
set_option maxHeartbeats 4000000 in
set_option maxRecDepth 100000 in
theorem zc_M_reckon {l : Launch} {D : va_G} {cA : Nat → ClassId} {ad : Nat → Nat} {A : Nat → Prop} {F : Nat} {x1 : Int32} {x2 : Int32} {σ : zs_S} {q : Int32 × zs_S} (hJ : zs_J ad) (hf : zf_M_reckon F x1 x2 σ = some q) : Met l y_M_reckon (.code y_M_reckon prog_13_method_28_code 7 (some .int) :: zd_ww) { frames := 1, cells := 0, slots := 0, locals := 23 } (va_Pc [.ref (ad 1), .int x1, .int x2] (zs_U 1 D cA ad A σ)) (zs_Qi 1 D cA ad A q) 0 0 A := by
  refine Met.ofW (cc := prog_13_method_28_code) (maxL := 7) (ret := (some .int)) (by decide) rfl ?_
  intro p e s m args below meth c s₁ B hml hv
  obtain ⟨hargs, hP, hK, hD, hZ⟩ := hv
  have G : zs_G 1 p s m args c prog_13_method_28_code 7 "ScheduleCheckModel" D cA ad A := ⟨⟨B.exec, B.bytes, hml, findClass_of_methodNamed B.named, fun w h => atoms_spec B.pre w (List.mem_cons_of_mem _ h)⟩, hK, hJ, hZ⟩
  have hw : zs_I 1 D cA ad A s σ s.heap [] := ⟨hP, hD, va_S.rf⟩
  have hx := G.1.1
  have hb := G.1.2.1
  have hown := G.1.2.2.2.1
  have hts := G.1.2.2.2.2
  have hr := B.returns
  have hlocks := B.notSynchronized
  have he : entryFrame m args 7 = F0 m 0 ((lg_sl [.ref (ad 1), .int x1, .int x2] ++ List.replicate (7 - (lg_sl [.ref (ad 1), .int x1, .int x2]).length) Slot.unset).toArray) [] := by rw [hargs]; exact lg_entry_eq m _ 7
  have hl := lv_entry [.ref (ad 1), .int x1, .int x2] (n := 7) (Nat.le_of_ble_eq_true rfl)
  rw [he]
  generalize (lg_sl [.ref (ad 1), .int x1, .int x2] ++ List.replicate (7 - (lg_sl [.ref (ad 1), .int x1, .int x2]).length) Slot.unset).toArray = ls at hl
  have hl : lv_has ls 7 [(0, .ref (ad 1)), (1, .int x1), (2, .int x2)] := hl
  obtain ⟨RR, hR⟩ : ∃ z, z = (headSpec (.code y_M_reckon prog_13_method_28_code 7 (some .int) :: zd_ww) { frames := 1, cells := 0, slots := 0, locals := 23 }).room := ⟨_, rfl⟩
  rw [← hR]
  obtain ⟨QQ, hQ⟩ : ∃ z, z = MQ below (zs_Qi 1 D cA ad A q) args s 0 0 A := ⟨_, rfl⟩
  rw [← hQ]
  have hR1 : 1 ≤ RR.frames := by rw [hR]; exact Nat.le_refl _
  have hR2 : 23 ≤ RR.locals := by rw [hR]; exact Nat.le_refl _
  generalize s.heap = H at hw ⊢
  generalize ([] : List Loc) = locs at hw ⊢
  have K194 : ∀ (k5 : Int32 → Int32 → Int32 → zs_S → Option (Int32 × zs_S)) (hk5 : ∀ (x1 : Int32) (x3 : Int32) (x4 : Int32) (σ : zs_S) (H : Heap) (locs : List Loc) (ls : Array Slot), k5 x1 x3 x4 σ = some q → zs_I 1 D cA ad A s σ H locs → lv_has ls 7 [(0, .ref (ad 1)), (1, .int x1), (3, .int x3), (4, .int x4)] → W p l e RR s m args below meth c H locs 0 0 QQ (F0 m 5 ls [])) (x1 : Int32) (x3 : Int32) (x4 : Int32) (σ : zs_S) (H : Heap) (locs : List Loc) (ls : Array Slot), zf_M_reckon_194 F k5 x1 x3 x4 σ = some q → zs_I 1 D cA ad A s σ H locs → lv_has ls 7 [(0, .ref (ad 1)), (1, .int x1), (3, .int x3), (4, .int x4)] → W p l e RR s m args below meth c H locs 0 0 QQ (F0 m 194 ls []) := by
    intro k5 hk5 x1 x3 x4 σ H locs ls hf hw hl
    unfold zf_M_reckon_194 at hf
    obtain ⟨v38, e_v38, hf⟩ := zq_ss hf
    refine lv_iinc (v := v38) hx hb d_M_reckon_194 hl (k := 3) rfl (zq_inc (k := 1) (by decide) e_v38) (by decide) rfl (fun ls hl => ?_)
    have hl : lv_has ls 7 [(4, .int v38), (0, .ref (ad 1)), (1, .int x1), (3, .int x3)] := hl
    refine lv_goto hx hb d_M_reckon_197 (tgt := 5) rfl ?_
    exact hk5 x1 x3 v38 σ H locs ls hf hw (lv_sub hl [1, 2, 3, 0] rfl)
  have K160 : ∀ (k5 : Int32 → Int32 → Int32 → zs_S → Option (Int32 × zs_S)) (hk5 : ∀ (x1 : Int32) (x3 : Int32) (x4 : Int32) (σ : zs_S) (H : Heap) (locs : List Loc) (ls : Array Slot), k5 x1 x3 x4 σ = some q → zs_I 1 D cA ad A s σ H locs → lv_has ls 7 [(0, .ref (ad 1)), (1, .int x1), (3, .int x3), (4, .int x4)] → W p l e RR s m args below meth c H locs 0 0 QQ (F0 m 5 ls [])) (x1 : Int32) (x3 : Int32) (x4 : Int32) (t0 : Int32) (t1 : Int32) (σ : zs_S) (H : Heap) (locs : List Loc) (ls : Array Slot), zf_M_reckon_160 F k5 x1 x3 x4 t0 t1 σ = some q → zs_I 1 D cA ad A s σ H locs → lv_has ls 7 [(0, .ref (ad 1)), (1, .int x1), (3, .int x3), (4, .int x4)] → W p l e RR s m args below meth c H locs 0 0 QQ (F0 m 160 ls [.int t0, .int t1, .ref (ad 66)]) := by
    intro k5 hk5 x1 x3 x4 t0 t1 σ H locs ls hf hw hl
    unfold zf_M_reckon_160 at hf
    obtain ⟨hi39, hf⟩ := zq_gs hf
    obtain ⟨σ40, e_σ40, hf⟩ := zq_ss hf
    refine zr_iast G hw 66 rfl rfl  hi39  d_M_reckon_160 (fun H locs hw => ?_)
    rw [← e_σ40] at hw
    refine lv_goto hx hb d_M_reckon_161 (tgt := 194) rfl ?_
    exact K194 k5 hk5 x1 x3 x4 σ40 H locs ls hf hw (lv_sub hl [0, 1, 2, 3] rfl)
  have K117 : ∀ (k5 : Int32 → Int32 → Int32 → zs_S → Option (Int32 × zs_S)) (hk5 : ∀ (x1 : Int32) (x3 : Int32) (x4 : Int32) (σ : zs_S) (H : Heap) (locs : List Loc) (ls : Array Slot), k5 x1 x3 x4 σ = some q → zs_I 1 D cA ad A s σ H locs → lv_has ls 7 [(0, .ref (ad 1)), (1, .int x1), (3, .int x3), (4, .int x4)] → W p l e RR s m args below meth c H locs 0 0 QQ (F0 m 5 ls [])) (x1 : Int32) (x3 : Int32) (x4 : Int32) (x5 : Int32) (σ : zs_S) (H : Heap) (locs : List Loc) (ls : Array Slot), zf_M_reckon_117 F k5 x1 x3 x4 x5 σ = some q → zs_I 1 D cA ad A s σ H locs → lv_has ls 7 [(0, .ref (ad 1)), (1, .int x1), (3, .int x3), (4, .int x4), (5, .int x5)] → W p l e RR s m args below meth c H locs 0 0 QQ (F0 m 117 ls []) := by
    intro k5 hk5 x1 x3 x4 x5 σ H locs ls hf hw hl
    unfold zf_M_reckon_117 at hf
    refine lv_aload_n hx hb d_M_reckon_117 rfl (lv_at hl 0 rfl) ?_
    refine zr_get (ci := 8) G hw 1 27 zi_8 rfl rfl rfl (by decide) zm_617 (fun _ h => h) (v := .ref (ad 66)) rfl d_M_reckon_118 ?_
    refine lv_iload_n hx hb d_M_reckon_121 rfl (lv_at hl 2 rfl) ?_
    refine lv_iconst (v := 1) hx hb d_M_reckon_122 (by decide) ?_
    refine lv_isub hx hb d_M_reckon_123 ?_
    refine lv_iload hx hb d_M_reckon_124 (lv_at hl 4 rfl) ?_
    refine lv_bipush (v := 6) hx hb d_M_reckon_126 (by decide) ?_
    refine lv_icmp_ne hx hb d_M_reckon_128 (tgt := 144) rfl (fun hc => ?_) (fun hc => ?_)
    · have hf := (if_neg hc).symm.trans hf
      refine lv_aload_n hx hb d_M_reckon_144 rfl (lv_at hl 0 rfl) ?_
      refine zr_get (ci := 8) G hw 1 27 zi_8 rfl rfl rfl (by decide) zm_617 (fun _ h => h) (v := .ref (ad 66)) rfl d_M_reckon_145 ?_
      refine lv_iload_n hx hb d_M_reckon_148 rfl (lv_at hl 2 rfl) ?_
      refine lv_iconst (v := 1) hx hb d_M_reckon_149 (by decide) ?_
      refine lv_isub hx hb d_M_reckon_150 ?_
      obtain ⟨hi36, hf⟩ := zq_gs hf
      refine zr_iald G hw 66 rfl rfl hi36 d_M_reckon_151 ?_
      refine lv_if_ne hx hb d_M_reckon_152 (tgt := 159) rfl (fun hc => ?_) (fun hc => ?_)
      · have hf := (if_neg hc).symm.trans hf
        refine lv_iconst (v := 0) hx hb d_M_reckon_159 (by decide) ?_
        exact K160 k5 hk5 x1 x3 x4 0 (x3 - 1) σ H locs ls hf hw (lv_sub hl [0, 1, 2, 3] rfl)
      · have hf := (if_pos hc).symm.trans hf
        refine lv_iconst (v := 1) hx hb d_M_reckon_155 (by decide) ?_
        refine lv_goto hx hb d_M_reckon_156 (tgt := 160) rfl ?_
        exact K160 k5 hk5 x1 x3 x4 1 (x3 - 1) σ H locs ls hf hw (lv_sub hl [0, 1, 2, 3] rfl)
    · have hf := (if_pos hc).symm.trans hf
      refine lv_aload_n hx hb d_M_reckon_131 rfl (lv_at hl 0 rfl) ?_
      refine zr_get (ci := 8) G hw 1 27 zi_8 rfl rfl rfl (by decide) zm_617 (fun _ h => h) (v := .ref (ad 66)) rfl d_M_reckon_132 ?_
      refine lv_iload_n hx hb d_M_reckon_135 rfl (lv_at hl 2 rfl) ?_
      refine lv_iconst (v := 1) hx hb d_M_reckon_136 (by decide) ?_
      refine lv_isub hx hb d_M_reckon_137 ?_
      obtain ⟨hi37, hf⟩ := zq_gs hf
      refine zr_iald G hw 66 rfl rfl hi37 d_M_reckon_138 ?_
      refine lv_ineg hx hb d_M_reckon_139 ?_
      refine lv_i2b hx hb d_M_reckon_140 rfl ?_
      refine lv_goto hx hb d_M_reckon_141 (tgt := 160) rfl ?_
      exact K160 k5 hk5 x1 x3 x4 (((-(zs_i σ 66 (x3 - 1).toNatClampNeg) : Int32)).toInt8.toInt32) (x3 - 1) σ H locs ls hf hw (lv_sub hl [0, 1, 2, 3] rfl)
  have K96 : ∀ (k5 : Int32 → Int32 → Int32 → zs_S → Option (Int32 × zs_S)) (hk5 : ∀ (x1 : Int32) (x3 : Int32) (x4 : Int32) (σ : zs_S) (H : Heap) (locs : List Loc) (ls : Array Slot), k5 x1 x3 x4 σ = some q → zs_I 1 D cA ad A s σ H locs → lv_has ls 7 [(0, .ref (ad 1)), (1, .int x1), (3, .int x3), (4, .int x4)] → W p l e RR s m args below meth c H locs 0 0 QQ (F0 m 5 ls [])) (x1 : Int32) (x3 : Int32) (x4 : Int32) (t0 : Int32) (t1 : Int32) (σ : zs_S) (H : Heap) (locs : List Loc) (ls : Array Slot), zf_M_reckon_96 F k5 x1 x3 x4 t0 t1 σ = some q → zs_I 1 D cA ad A s σ H locs → lv_has ls 7 [(0, .ref (ad 1)), (1, .int x1), (3, .int x3), (4, .int x4)] → W p l e RR s m args below meth c H locs 0 0 QQ (F0 m 96 ls [.int t0, .int t1, .ref (ad 66)]) := by
    intro k5 hk5 x1 x3 x4 t0 t1 σ H locs ls hf hw hl
    unfold zf_M_reckon_96 at hf
    obtain ⟨hi33, hf⟩ := zq_gs hf
    obtain ⟨σ34, e_σ34, hf⟩ := zq_ss hf
    refine zr_iast G hw 66 rfl rfl  hi33  d_M_reckon_96 (fun H locs hw => ?_)
    rw [← e_σ34] at hw
    obtain ⟨v35, e_v35, hf⟩ := zq_ss hf
    refine lv_iinc (v := v35) hx hb d_M_reckon_97 hl (k := 2) rfl (zq_inc (k := 1) (by decide) e_v35) (by decide) rfl (fun ls hl => ?_)
    have hl : lv_has ls 7 [(3, .int v35), (0, .ref (ad 1)), (1, .int x1), (4, .int x4)] := hl
    refine lv_goto hx hb d_M_reckon_100 (tgt := 194) rfl ?_
    exact K194 k5 hk5 x1 v35 x4 σ34 H locs ls hf hw (lv_sub hl [1, 2, 0, 3] rfl)
  have K5 : ∀ (n : Nat) (x1 : Int32) (x3 : Int32) (x4 : Int32) (σ : zs_S) (H : Heap) (locs : List Loc) (ls : Array Slot), zf_M_reckon_5 F n x1 x3 x4 σ = some q → zs_I 1 D cA ad A s σ H locs → lv_has ls 7 [(0, .ref (ad 1)), (1, .int x1), (3, .int x3), (4, .int x4)] → W p l e RR s m args below meth c H locs 0 0 QQ (F0 m 5 ls []) := by
    intro  n
    induction n with
    | zero => intro x1 x3 x4 σ H locs ls hf hw hl; exact nomatch (show (none : Option (Int32 × zs_S)) = some q from hf)
    | succ n ih =>
      intro x1 x3 x4 σ H locs ls hf hw hl
      rw [zf_M_reckon_5] at hf
      refine lv_aload_n hx hb d_M_reckon_5 rfl (lv_at hl 0 rfl) ?_
      obtain ⟨q1, e_q1, h_q1, hf⟩ := zq_qs hf
      refine zr_get (ci := 8) G hw 1 2 zi_8 rfl rfl rfl (by decide) zm_616 (fun _ h => h) (v := .ref (ad q1)) (zs_fr rfl e_q1 h_q1) d_M_reckon_6 ?_
      obtain ⟨hs2, hf⟩ := zq_gs hf
      have hs2 := zq_ks hs2
      obtain ⟨q3, e_q3, h_q3, hf⟩ := zq_qs hf
      refine zr_get (ci := 9) G hw q1 11 zi_9 hs2 rfl rfl (by decide) zm_584 (fun _ h => h) (v := .ref (ad q3)) (zs_fs rfl e_q3 h_q3) d_M_reckon_9 ?_
      refine lv_iload hx hb d_M_reckon_12 (lv_at hl 3 rfl) ?_
      obtain ⟨hs4, hf⟩ := zq_gs hf
      have hs4 := zq_ks hs4
      obtain ⟨hi5, hf⟩ := zq_gs hf
      refine zr_iald G hw q3 hs4 rfl hi5 d_M_reckon_14 ?_
      refine lv_bipush (v := 16) hx hb d_M_reckon_15 (by decide) ?_
      refine lv_icmp_eq hx hb d_M_reckon_17 (tgt := 200) rfl (fun hc => ?_) (fun hc => ?_)
      · have hf := (if_pos hc).symm.trans hf
        refine lv_aload_n hx hb d_M_reckon_200 rfl (lv_at hl 0 rfl) ?_
        refine zr_get (ci := 8) G hw 1 27 zi_8 rfl rfl rfl (by decide) zm_617 (fun _ h => h) (v := .ref (ad 66)) rfl d_M_reckon_201 ?_
        refine lv_iconst (v := 0) hx hb d_M_reckon_204 (by decide) ?_
        obtain ⟨hi6, hf⟩ := zq_gs hf
        refine zr_iald G hw 66 rfl rfl hi6 d_M_reckon_205 ?_
        exact zr_iret G hw hr hlocks hf hQ d_M_reckon_206
      · have hf := (if_neg hc).symm.trans hf
        refine lv_aload_n hx hb d_M_reckon_20 rfl (lv_at hl 0 rfl) ?_
        obtain ⟨q7, e_q7, h_q7, hf⟩ := zq_qs hf
        refine zr_get (ci := 8) G hw 1 2 zi_8 rfl rfl rfl (by decide) zm_616 (fun _ h => h) (v := .ref (ad q7)) (zs_fr rfl e_q7 h_q7) d_M_reckon_21 ?_
        obtain ⟨hs8, hf⟩ := zq_gs hf
        have hs8 := zq_ks hs8
        obtain ⟨q9, e_q9, h_q9, hf⟩ := zq_qs hf
        refine zr_get (ci := 9) G hw q7 11 zi_9 hs8 rfl rfl (by decide) zm_584 (fun _ h => h) (v := .ref (ad q9)) (zs_fs rfl e_q9 h_q9) d_M_reckon_24 ?_
        refine lv_iload hx hb d_M_reckon_27 (lv_at hl 3 rfl) ?_
        obtain ⟨hs10, hf⟩ := zq_gs hf
        have hs10 := zq_ks hs10
        obtain ⟨hi11, hf⟩ := zq_gs hf
        refine zr_iald G hw q9 hs10 rfl hi11 d_M_reckon_29 ?_
        refine lv_topi (fun v12 e_v12 => ?_)
        have hf := zq_vs e_v12 hf
        refine lv_istore hx hb d_M_reckon_30 hl (by decide) rfl (fun ls hl => ?_)
        have hl : lv_has ls 7 [(5, .int v12), (0, .ref (ad 1)), (1, .int x1), (3, .int x3), (4, .int x4)] := hl
        refine lv_iload hx hb d_M_reckon_32 (lv_at hl 0 rfl) ?_
        refine lv_iconst (v := 2) hx hb d_M_reckon_34 (by decide) ?_
        refine lv_icmp_gt hx hb d_M_reckon_35 (tgt := 103) rfl (fun hc => ?_) (fun hc => ?_)
        · have hf := (if_pos hc).symm.trans hf
          refine lv_iload hx hb d_M_reckon_103 (lv_at hl 0 rfl) ?_
          refine lv_bipush (v := 6) hx hb d_M_reckon_105 (by decide) ?_
          refine lv_icmp_eq hx hb d_M_reckon_107 (tgt := 117) rfl (fun hc => ?_) (fun hc => ?_)
          · have hf := (if_pos hc).symm.trans hf
            exact K117 (zf_M_reckon_5 F n) ih x1 x3 x4 v12 σ H locs ls hf hw (lv_sub hl [1, 2, 3, 4, 0] rfl)
          · have hf := (if_neg hc).symm.trans hf
            refine lv_iload hx hb d_M_reckon_110 (lv_at hl 0 rfl) ?_
            refine lv_bipush (v := 7) hx hb d_M_reckon_112 (by decide) ?_
            refine lv_icmp_ne hx hb d_M_reckon_114 (tgt := 164) rfl (fun hc => ?_) (fun hc => ?_)
            · have hf := (if_neg hc).symm.trans hf
              obtain ⟨v13, e_v13, hf⟩ := zq_ss hf
              refine lv_iinc (v := v13) hx hb d_M_reckon_164 hl (k := 3) rfl (zq_inc (k := (-1)) (by decide) e_v13) (by decide) rfl (fun ls hl => ?_)
              have hl : lv_has ls 7 [(3, .int v13), (5, .int v12), (0, .ref (ad 1)), (1, .int x1), (4, .int x4)] := hl
              refine lv_aload_n hx hb d_M_reckon_167 rfl (lv_at hl 2 rfl) ?_
              refine zr_get (ci := 8) G hw 1 27 zi_8 rfl rfl rfl (by decide) zm_617 (fun _ h => h) (v := .ref (ad 66)) rfl d_M_reckon_168 ?_
              refine lv_iload_n hx hb d_M_reckon_171 rfl (lv_at hl 0 rfl) ?_
              refine lv_iconst (v := 1) hx hb d_M_reckon_172 (by decide) ?_
              refine lv_isub hx hb d_M_reckon_173 ?_
              refine lv_iload hx hb d_M_reckon_174 (lv_at hl 1 rfl) ?_
              refine lv_aload_n hx hb d_M_reckon_176 rfl (lv_at hl 2 rfl) ?_
              refine zr_get (ci := 8) G hw 1 27 zi_8 rfl rfl rfl (by decide) zm_617 (fun _ h => h) (v := .ref (ad 66)) rfl d_M_reckon_177 ?_
              refine lv_iload_n hx hb d_M_reckon_180 rfl (lv_at hl 0 rfl) ?_
              refine lv_iconst (v := 1) hx hb d_M_reckon_181 (by decide) ?_
              refine lv_isub hx hb d_M_reckon_182 ?_
              obtain ⟨hi14, hf⟩ := zq_gs hf
              refine zr_iald G hw 66 rfl rfl hi14 d_M_reckon_183 ?_
              refine lv_aload_n hx hb d_M_reckon_184 rfl (lv_at hl 2 rfl) ?_
              refine zr_get (ci := 8) G hw 1 27 zi_8 rfl rfl rfl (by decide) zm_617 (fun _ h => h) (v := .ref (ad 66)) rfl d_M_reckon_185 ?_
              refine lv_iload_n hx hb d_M_reckon_188 rfl (lv_at hl 0 rfl) ?_
              obtain ⟨hi15, hf⟩ := zq_gs hf
              refine zr_iald G hw 66 rfl rfl hi15 d_M_reckon_189 ?_
              obtain ⟨r17, σ16, hc18, hf⟩ := zq_cs hf
              refine zr_ci hw (zr_runS (rest := [.int (v13 - 1), .ref (ad 66)]) G hw [.int v12, .int (zs_i σ 66 (v13 - 1).toNatClampNeg), .int (zs_i σ 66 (v13).toNatClampNeg)] (zc_M_together hJ hc18) (va_cwS 3 hts (zs_gS zm_619 zm_620 zm_551 zm_618) rfl rfl rfl (by decide +kernel) ⟨Nat.le_trans (by decide) hR1, Nat.le_trans (by decide) hR2⟩) rfl hl.1 (Nat.le_of_ble_eq_true rfl) d_M_reckon_190 ⟨Nat.zero_le _, Nat.zero_le _⟩) (fun H locs hw => ?_)
              obtain ⟨hi19, hf⟩ := zq_gs hf
              obtain ⟨σ20, e_σ20, hf⟩ := zq_ss hf
              refine zr_iast G hw 66 rfl rfl  hi19  d_M_reckon_193 (fun H locs hw => ?_)
              rw [← e_σ20] at hw
              exact K194 (zf_M_reckon_5 F n) ih x1 v13 x4 σ20 H locs ls hf hw (lv_sub hl [2, 3, 0, 4] rfl)
            · have hf := (if_pos hc).symm.trans hf
              exact K117 (zf_M_reckon_5 F n) ih x1 x3 x4 v12 σ H locs ls hf hw (lv_sub hl [1, 2, 3, 4, 0] rfl)
        · have hf := (if_neg hc).symm.trans hf
          obtain ⟨v21, e_v21, hf⟩ := zq_ss hf
          refine lv_iinc (v := v21) hx hb d_M_reckon_38 hl (k := 4) rfl (zq_inc (k := 1) (by decide) e_v21) (by decide) rfl (fun ls hl => ?_)
          have hl : lv_has ls 7 [(4, .int v21), (5, .int v12), (0, .ref (ad 1)), (1, .int x1), (3, .int x3)] := hl
          refine lv_aload_n hx hb d_M_reckon_41 rfl (lv_at hl 2 rfl) ?_
          obtain ⟨q22, e_q22, h_q22, hf⟩ := zq_qs hf
          refine zr_get (ci := 8) G hw 1 2 zi_8 rfl rfl rfl (by decide) zm_616 (fun _ h => h) (v := .ref (ad q22)) (zs_fr rfl e_q22 h_q22) d_M_reckon_42 ?_
          obtain ⟨hs23, hf⟩ := zq_gs hf
          have hs23 := zq_ks hs23
          obtain ⟨q24, e_q24, h_q24, hf⟩ := zq_qs hf
          refine zr_get (ci := 9) G hw q22 11 zi_9 hs23 rfl rfl (by decide) zm_584 (fun _ h => h) (v := .ref (ad q24)) (zs_fs rfl e_q24 h_q24) d_M_reckon_45 ?_
          refine lv_iload hx hb d_M_reckon_48 (lv_at hl 0 rfl) ?_
          obtain ⟨hs25, hf⟩ := zq_gs hf
          have hs25 := zq_ks hs25
          obtain ⟨hi26, hf⟩ := zq_gs hf
          refine zr_iald G hw q24 hs25 rfl hi26 d_M_reckon_50 ?_
          refine lv_topi (fun v27 e_v27 => ?_)
          have hf := zq_vs e_v27 hf
          refine lv_istore hx hb d_M_reckon_51 hl (by decide) rfl (fun ls hl => ?_)
          have hl : lv_has ls 7 [(6, .int v27), (4, .int v21), (5, .int v12), (0, .ref (ad 1)), (1, .int x1), (3, .int x3)] := hl
          refine lv_aload_n hx hb d_M_reckon_53 rfl (lv_at hl 3 rfl) ?_
          refine zr_get (ci := 8) G hw 1 27 zi_8 rfl rfl rfl (by decide) zm_617 (fun _ h => h) (v := .ref (ad 66)) rfl d_M_reckon_54 ?_
          refine lv_iload_n hx hb d_M_reckon_57 rfl (lv_at hl 5 rfl) ?_
          refine lv_iload hx hb d_M_reckon_58 (lv_at hl 2 rfl) ?_
          refine lv_if_ne hx hb d_M_reckon_60 (tgt := 68) rfl (fun hc => ?_) (fun hc => ?_)
          · have hf := (if_neg hc).symm.trans hf
            refine lv_iload hx hb d_M_reckon_68 (lv_at hl 2 rfl) ?_
            refine lv_iconst (v := 1) hx hb d_M_reckon_70 (by decide) ?_
            refine lv_icmp_ne hx hb d_M_reckon_71 (tgt := 84) rfl (fun hc => ?_) (fun hc => ?_)
            · have hf := (if_neg hc).symm.trans hf
              refine lv_aload_n hx hb d_M_reckon_84 rfl (lv_at hl 3 rfl) ?_
              refine zr_get (ci := 8) G hw 1 25 zi_8 rfl rfl rfl (by decide) zm_621 (fun _ h => h) (v := .ref (ad 64)) rfl d_M_reckon_85 ?_
              refine lv_iload_n hx hb d_M_reckon_88 rfl (lv_at hl 4 rfl) ?_
              obtain ⟨r29, σ28, hc30, hf⟩ := zq_cs hf
              refine zr_ci hw (zr_runS (rest := [.ref (ad 64), .int x3, .ref (ad 66)]) G hw [.int x1] (zc_M_each hJ hc30) (va_cwS 1 hts (zs_gS zm_623 zm_624 zm_551 zm_622) rfl rfl rfl (by decide +kernel) ⟨Nat.le_trans (by decide) hR1, Nat.le_trans (by decide) hR2⟩) rfl hl.1 (Nat.le_of_ble_eq_true rfl) d_M_reckon_89 ⟨Nat.zero_le _, Nat.zero_le _⟩) (fun H locs hw => ?_)
              refine lv_iload hx hb d_M_reckon_92 (lv_at hl 0 rfl) ?_
              refine lv_iadd hx hb d_M_reckon_94 ?_
              obtain ⟨hi31, hf⟩ := zq_gs hf
              refine zr_iald G hw 64 rfl rfl hi31 d_M_reckon_95 ?_
              exact K96 (zf_M_reckon_5 F n) ih x1 x3 v21 (zs_i σ28 64 (r29 + v27).toNatClampNeg) x3 σ28 H locs ls hf hw (lv_sub hl [3, 4, 5, 1] rfl)
            · have hf := (if_pos hc).symm.trans hf
              refine lv_aload_n hx hb d_M_reckon_74 rfl (lv_at hl 3 rfl) ?_
              refine zr_get (ci := 8) G hw 1 25 zi_8 rfl rfl rfl (by decide) zm_621 (fun _ h => h) (v := .ref (ad 64)) rfl d_M_reckon_75 ?_
              refine lv_iload hx hb d_M_reckon_78 (lv_at hl 0 rfl) ?_
              obtain ⟨hi32, hf⟩ := zq_gs hf
              refine zr_iald G hw 64 rfl rfl hi32 d_M_reckon_80 ?_
              refine lv_goto hx hb d_M_reckon_81 (tgt := 96) rfl ?_
              exact K96 (zf_M_reckon_5 F n) ih x1 x3 v21 (zs_i σ 64 (v27).toNatClampNeg) x3 σ H locs ls hf hw (lv_sub hl [3, 4, 5, 1] rfl)
          · have hf := (if_pos hc).symm.trans hf
            refine lv_iload hx hb d_M_reckon_63 (lv_at hl 0 rfl) ?_
            refine lv_goto hx hb d_M_reckon_65 (tgt := 96) rfl ?_
            exact K96 (zf_M_reckon_5 F n) ih x1 x3 v21 v27 x3 σ H locs ls hf hw (lv_sub hl [3, 4, 5, 1] rfl)
  unfold zf_M_reckon at hf
  refine lv_iconst (v := 0) hx hb d_M_reckon_0 (by decide) ?_
  refine lv_istore_n hx hb d_M_reckon_1 rfl hl (by decide) rfl (fun ls hl => ?_)
  have hl : lv_has ls 7 [(3, .int 0), (0, .ref (ad 1)), (1, .int x1), (2, .int x2)] := hl
  refine lv_iload_n hx hb d_M_reckon_2 rfl (lv_at hl 3 rfl) ?_
  refine lv_istore hx hb d_M_reckon_3 hl (by decide) rfl (fun ls hl => ?_)
  have hl : lv_has ls 7 [(4, .int x2), (3, .int 0), (0, .ref (ad 1)), (1, .int x1), (2, .int x2)] := hl
  exact K5 F x1 0 x2 σ H locs ls hf hw (lv_sub hl [2, 3, 1, 0] rfl)
/-! ScheduleCheckModel.isReady -/
def y_M_isReady : MethodName := ⟨"ScheduleCheckModel","isReady","(I)Z"⟩
theorem d_M_isReady_0 : decode prog_13_method_30_code 0 = .ok (.aload_n 0, 1) := by decide +kernel
theorem d_M_isReady_1 : decode prog_13_method_30_code 1 = .ok (.getfield 45, 3) := by decide +kernel
theorem d_M_isReady_4 : decode prog_13_method_30_code 4 = .ok (.iload_n 1, 1) := by decide +kernel
theorem d_M_isReady_5 : decode prog_13_method_30_code 5 = .ok (.invokestatic 296, 3) := by decide +kernel
theorem d_M_isReady_8 : decode prog_13_method_30_code 8 = .ok (.iconst 3, 1) := by decide +kernel
theorem d_M_isReady_9 : decode prog_13_method_30_code 9 = .ok (.iadd, 1) := by decide +kernel
theorem d_M_isReady_10 : decode prog_13_method_30_code 10 = .ok (.iaload, 1) := by decide +kernel
theorem d_M_isReady_11 : decode prog_13_method_30_code 11 = .ok (.istore_n 2, 1) := by decide +kernel
theorem d_M_isReady_12 : decode prog_13_method_30_code 12 = .ok (.aload_n 0, 1) := by decide +kernel
theorem d_M_isReady_13 : decode prog_13_method_30_code 13 = .ok (.getfield 45, 3) := by decide +kernel
theorem d_M_isReady_16 : decode prog_13_method_30_code 16 = .ok (.iload_n 1, 1) := by decide +kernel
theorem d_M_isReady_17 : decode prog_13_method_30_code 17 = .ok (.invokestatic 296, 3) := by decide +kernel
theorem d_M_isReady_20 : decode prog_13_method_30_code 20 = .ok (.iconst 4, 1) := by decide +kernel
theorem d_M_isReady_21 : decode prog_13_method_30_code 21 = .ok (.iadd, 1) := by decide +kernel
theorem d_M_isReady_22 : decode prog_13_method_30_code 22 = .ok (.iaload, 1) := by decide +kernel
theorem d_M_isReady_23 : decode prog_13_method_30_code 23 = .ok (.istore_n 3, 1) := by decide +kernel
theorem d_M_isReady_24 : decode prog_13_method_30_code 24 = .ok (.aload_n 0, 1) := by decide +kernel
theorem d_M_isReady_25 : decode prog_13_method_30_code 25 = .ok (.getfield 45, 3) := by decide +kernel
theorem d_M_isReady_28 : decode prog_13_method_30_code 28 = .ok (.bipush 32, 2) := by decide +kernel
theorem d_M_isReady_30 : decode prog_13_method_30_code 30 = .ok (.iaload, 1) := by decide +kernel
theorem d_M_isReady_31 : decode prog_13_method_30_code 31 = .ok (.ifCond .gt 12, 3) := by decide +kernel
theorem d_M_isReady_34 : decode prog_13_method_30_code 34 = .ok (.iload_n 2, 1) := by decide +kernel
theorem d_M_isReady_35 : decode prog_13_method_30_code 35 = .ok (.ifCond .lt 8, 3) := by decide +kernel
theorem d_M_isReady_38 : decode prog_13_method_30_code 38 = .ok (.iload_n 3, 1) := by decide +kernel
theorem d_M_isReady_39 : decode prog_13_method_30_code 39 = .ok (.iconst 1, 1) := by decide +kernel
theorem d_M_isReady_40 : decode prog_13_method_30_code 40 = .ok (.if_icmp .ne 5, 3) := by decide +kernel
theorem d_M_isReady_43 : decode prog_13_method_30_code 43 = .ok (.iconst 0, 1) := by decide +kernel
theorem d_M_isReady_44 : decode prog_13_method_30_code 44 = .ok (.ireturn, 1) := by decide +kernel
theorem d_M_isReady_45 : decode prog_13_method_30_code 45 = .ok (.iload_n 3, 1) := by decide +kernel
theorem d_M_isReady_46 : decode prog_13_method_30_code 46 = .ok (.iconst 2, 1) := by decide +kernel
theorem d_M_isReady_47 : decode prog_13_method_30_code 47 = .ok (.if_icmp .eq 16, 3) := by decide +kernel
theorem d_M_isReady_50 : decode prog_13_method_30_code 50 = .ok (.aload_n 0, 1) := by decide +kernel
theorem d_M_isReady_51 : decode prog_13_method_30_code 51 = .ok (.getfield 16, 3) := by decide +kernel
theorem d_M_isReady_54 : decode prog_13_method_30_code 54 = .ok (.getfield 232, 3) := by decide +kernel
theorem d_M_isReady_57 : decode prog_13_method_30_code 57 = .ok (.iload_n 2, 1) := by decide +kernel
theorem d_M_isReady_58 : decode prog_13_method_30_code 58 = .ok (.iaload, 1) := by decide +kernel
theorem d_M_isReady_59 : decode prog_13_method_30_code 59 = .ok (.iconst 1, 1) := by decide +kernel
theorem d_M_isReady_60 : decode prog_13_method_30_code 60 = .ok (.if_icmp .ne 23, 3) := by decide +kernel
theorem d_M_isReady_63 : decode prog_13_method_30_code 63 = .ok (.aload_n 0, 1) := by decide +kernel
theorem d_M_isReady_64 : decode prog_13_method_30_code 64 = .ok (.getfield 45, 3) := by decide +kernel
theorem d_M_isReady_67 : decode prog_13_method_30_code 67 = .ok (.bipush 8, 2) := by decide +kernel
theorem d_M_isReady_69 : decode prog_13_method_30_code 69 = .ok (.aload_n 0, 1) := by decide +kernel
theorem d_M_isReady_70 : decode prog_13_method_30_code 70 = .ok (.getfield 16, 3) := by decide +kernel
theorem d_M_isReady_73 : decode prog_13_method_30_code 73 = .ok (.getfield 244, 3) := by decide +kernel
theorem d_M_isReady_76 : decode prog_13_method_30_code 76 = .ok (.iload_n 2, 1) := by decide +kernel
theorem d_M_isReady_77 : decode prog_13_method_30_code 77 = .ok (.iaload, 1) := by decide +kernel
theorem d_M_isReady_78 : decode prog_13_method_30_code 78 = .ok (.iadd, 1) := by decide +kernel
theorem d_M_isReady_79 : decode prog_13_method_30_code 79 = .ok (.iaload, 1) := by decide +kernel
theorem d_M_isReady_80 : decode prog_13_method_30_code 80 = .ok (.ifCond .ge 7, 3) := by decide +kernel
theorem d_M_isReady_83 : decode prog_13_method_30_code 83 = .ok (.iconst 1, 1) := by decide +kernel
theorem d_M_isReady_84 : decode prog_13_method_30_code 84 = .ok (.goto 4, 3) := by decide +kernel
theorem d_M_isReady_87 : decode prog_13_method_30_code 87 = .ok (.iconst 0, 1) := by decide +kernel
theorem d_M_isReady_88 : decode prog_13_method_30_code 88 = .ok (.ireturn, 1) := by decide +kernel
def zf_M_isReady_88 (F : Nat)  (t0 : Int32) (σ : zs_S) : Option (Int32 × zs_S) :=
  zq_g (zq_z t0) <|
  some (t0, σ)
def zf_M_isReady_83 (F : Nat)   (σ : zs_S) : Option (Int32 × zs_S) :=
  zf_M_isReady_88 F 1 σ
def zf_M_isReady_63 (F : Nat)  (x2 : Int32) (σ : zs_S) : Option (Int32 × zs_S) :=
  zq_q (zs_r σ 1 2) fun q17 =>
  zq_g (zq_k 1 q17 19) <|
  zq_q (zd_rf 1 q17 8) fun q19 =>
  zq_g (zq_k 1 q19 0) <|
  zq_g (zq_b x2 (zd_sh 1 q19).2) <|
  zq_g (zq_b (8 + (zs_i σ q19 (x2).toNatClampNeg)) 34) <|
  if 0 ≤ (zs_i σ 64 (8 + (zs_i σ q19 (x2).toNatClampNeg)).toNatClampNeg) then (
    zf_M_isReady_88 F 0 σ
  ) else (
    zf_M_isReady_83 F σ
  )
def zf_M_isReady_43 (F : Nat)   (σ : zs_S) : Option (Int32 × zs_S) :=
  some (0, σ)
def zf_M_isReady (F : Nat) (x1 : Int32) (σ : zs_S) : Option (Int32 × zs_S) :=
  zq_c (zf_M_each F x1 σ) fun r2 σ1 =>
  zq_g (zq_b (r2 + 3) 34) <|
  zq_v (zs_i σ1 64 (r2 + 3).toNatClampNeg) fun v5 =>
  zq_c (zf_M_each F x1 σ1) fun r7 σ6 =>
  zq_g (zq_b (r7 + 4) 34) <|
  zq_v (zs_i σ6 64 (r7 + 4).toNatClampNeg) fun v10 =>
  zq_g (zq_b 32 34) <|
  if 0 < (zs_i σ6 64 (32 : Int32).toNatClampNeg) then (
    zf_M_isReady_43 F σ6
  ) else (
    if v5 < 0 then (
      zf_M_isReady_43 F σ6
    ) else (
      if v10 = 1 then (
        zf_M_isReady_43 F σ6
      ) else (
        if v10 = 2 then (
          zf_M_isReady_63 F v5 σ6
        ) else (
          zq_q (zs_r σ6 1 2) fun q12 =>
          zq_g (zq_k 1 q12 19) <|
          zq_q (zd_rf 1 q12 7) fun q14 =>
          zq_g (zq_k 1 q14 0) <|
          zq_g (zq_b v5 (zd_sh 1 q14).2) <|
          if (zs_i σ6 q14 (v5).toNatClampNeg) = 1 then (
            zf_M_isReady_63 F v5 σ6
          ) else (
            zf_M_isReady_83 F σ6
          )
        )
      )
    )
  )
set_option maxHeartbeats 4000000 in
set_option maxRecDepth 100000 in
theorem zc_M_isReady {l : Launch} {D : va_G} {cA : Nat → ClassId} {ad : Nat → Nat} {A : Nat → Prop} {F : Nat} {x1 : Int32} {σ : zs_S} {q : Int32 × zs_S} (hJ : zs_J ad) (hf : zf_M_isReady F x1 σ = some q) : Met l y_M_isReady (.code y_M_isReady prog_13_method_30_code 4 (some .boolean) :: zd_ww) { frames := 1, cells := 0, slots := 0, locals := 20 } (va_Pc [.ref (ad 1), .int x1] (zs_U 1 D cA ad A σ)) (zs_Qi 1 D cA ad A q) 0 0 A := by
  refine Met.ofW (cc := prog_13_method_30_code) (maxL := 4) (ret := (some .boolean)) (by decide) rfl ?_
  intro p e s m args below meth c s₁ B hml hv
  obtain ⟨hargs, hP, hK, hD, hZ⟩ := hv
  have G : zs_G 1 p s m args c prog_13_method_30_code 4 "ScheduleCheckModel" D cA ad A := ⟨⟨B.exec, B.bytes, hml, findClass_of_methodNamed B.named, fun w h => atoms_spec B.pre w (List.mem_cons_of_mem _ h)⟩, hK, hJ, hZ⟩
  have hw : zs_I 1 D cA ad A s σ s.heap [] := ⟨hP, hD, va_S.rf⟩
  have hx := G.1.1
  have hb := G.1.2.1
  have hown := G.1.2.2.2.1
  have hts := G.1.2.2.2.2
  have hr := B.returns
  have hlocks := B.notSynchronized
  have he : entryFrame m args 4 = F0 m 0 ((lg_sl [.ref (ad 1), .int x1] ++ List.replicate (4 - (lg_sl [.ref (ad 1), .int x1]).length) Slot.unset).toArray) [] := by rw [hargs]; exact lg_entry_eq m _ 4
  have hl := lv_entry [.ref (ad 1), .int x1] (n := 4) (Nat.le_of_ble_eq_true rfl)
  rw [he]
  generalize (lg_sl [.ref (ad 1), .int x1] ++ List.replicate (4 - (lg_sl [.ref (ad 1), .int x1]).length) Slot.unset).toArray = ls at hl
  have hl : lv_has ls 4 [(0, .ref (ad 1)), (1, .int x1)] := hl
  obtain ⟨RR, hR⟩ : ∃ z, z = (headSpec (.code y_M_isReady prog_13_method_30_code 4 (some .boolean) :: zd_ww) { frames := 1, cells := 0, slots := 0, locals := 20 }).room := ⟨_, rfl⟩
  rw [← hR]
  obtain ⟨QQ, hQ⟩ : ∃ z, z = MQ below (zs_Qi 1 D cA ad A q) args s 0 0 A := ⟨_, rfl⟩
  rw [← hQ]
  have hR1 : 1 ≤ RR.frames := by rw [hR]; exact Nat.le_refl _
  have hR2 : 20 ≤ RR.locals := by rw [hR]; exact Nat.le_refl _
  generalize s.heap = H at hw ⊢
  generalize ([] : List Loc) = locs at hw ⊢
  have K88 : ∀ (t0 : Int32) (σ : zs_S) (H : Heap) (locs : List Loc) (ls : Array Slot), zf_M_isReady_88 F t0 σ = some q → zs_I 1 D cA ad A s σ H locs → lv_has ls 4 [] → W p l e RR s m args below meth c H locs 0 0 QQ (F0 m 88 ls [.int t0]) := by
    intro  t0 σ H locs ls hf hw hl
    unfold zf_M_isReady_88 at hf
    obtain ⟨hz, hf⟩ := zq_gs hf
    exact zr_zret G hw hr hlocks hz hf hQ d_M_isReady_88
  have K83 : ∀ (σ : zs_S) (H : Heap) (locs : List Loc) (ls : Array Slot), zf_M_isReady_83 F σ = some q → zs_I 1 D cA ad A s σ H locs → lv_has ls 4 [] → W p l e RR s m args below meth c H locs 0 0 QQ (F0 m 83 ls []) := by
    intro   σ H locs ls hf hw hl
    unfold zf_M_isReady_83 at hf
    refine lv_iconst (v := 1) hx hb d_M_isReady_83 (by decide) ?_
    refine lv_goto hx hb d_M_isReady_84 (tgt := 88) rfl ?_
    exact K88 1 σ H locs ls hf hw (lv_sub hl [] rfl)
  have K63 : ∀ (x2 : Int32) (σ : zs_S) (H : Heap) (locs : List Loc) (ls : Array Slot), zf_M_isReady_63 F x2 σ = some q → zs_I 1 D cA ad A s σ H locs → lv_has ls 4 [(0, .ref (ad 1)), (2, .int x2)] → W p l e RR s m args below meth c H locs 0 0 QQ (F0 m 63 ls []) := by
    intro  x2 σ H locs ls hf hw hl
    unfold zf_M_isReady_63 at hf
    refine lv_aload_n hx hb d_M_isReady_63 rfl (lv_at hl 0 rfl) ?_
    refine zr_get (ci := 8) G hw 1 25 zi_8 rfl rfl rfl (by decide) zm_621 (fun _ h => h) (v := .ref (ad 64)) rfl d_M_isReady_64 ?_
    refine lv_bipush (v := 8) hx hb d_M_isReady_67 (by decide) ?_
    refine lv_aload_n hx hb d_M_isReady_69 rfl (lv_at hl 0 rfl) ?_
    obtain ⟨q17, e_q17, h_q17, hf⟩ := zq_qs hf
    refine zr_get (ci := 8) G hw 1 2 zi_8 rfl rfl rfl (by decide) zm_616 (fun _ h => h) (v := .ref (ad q17)) (zs_fr rfl e_q17 h_q17) d_M_isReady_70 ?_
    obtain ⟨hs18, hf⟩ := zq_gs hf
    have hs18 := zq_ks hs18
    obtain ⟨q19, e_q19, h_q19, hf⟩ := zq_qs hf
    refine zr_get (ci := 9) G hw q17 8 zi_9 hs18 rfl rfl (by decide) zm_626 (fun _ h => h) (v := .ref (ad q19)) (zs_fs rfl e_q19 h_q19) d_M_isReady_73 ?_
    refine lv_iload_n hx hb d_M_isReady_76 rfl (lv_at hl 1 rfl) ?_
    obtain ⟨hs20, hf⟩ := zq_gs hf
    have hs20 := zq_ks hs20
    obtain ⟨hi21, hf⟩ := zq_gs hf
    refine zr_iald G hw q19 hs20 rfl hi21 d_M_isReady_77 ?_
    refine lv_iadd hx hb d_M_isReady_78 ?_
    obtain ⟨hi22, hf⟩ := zq_gs hf
    refine zr_iald G hw 64 rfl rfl hi22 d_M_isReady_79 ?_
    refine lv_if_ge hx hb d_M_isReady_80 (tgt := 87) rfl (fun hc => ?_) (fun hc => ?_)
    · have hf := (if_pos hc).symm.trans hf
      refine lv_iconst (v := 0) hx hb d_M_isReady_87 (by decide) ?_
      exact K88 0 σ H locs ls hf hw (lv_sub hl [] rfl)
    · have hf := (if_neg hc).symm.trans hf
      exact K83 σ H locs ls hf hw (lv_sub hl [] rfl)
  have K43 : ∀ (σ : zs_S) (H : Heap) (locs : List Loc) (ls : Array Slot), zf_M_isReady_43 F σ = some q → zs_I 1 D cA ad A s σ H locs → lv_has ls 4 [] → W p l e RR s m args below meth c H locs 0 0 QQ (F0 m 43 ls []) := by
    intro   σ H locs ls hf hw hl
    unfold zf_M_isReady_43 at hf
    refine lv_iconst (v := 0) hx hb d_M_isReady_43 (by decide) ?_
    exact zr_zret G hw hr hlocks (by decide) hf hQ d_M_isReady_44
  unfold zf_M_isReady at hf
  refine lv_aload_n hx hb d_M_isReady_0 rfl (lv_at hl 0 rfl) ?_
  refine zr_get (ci := 8) G hw 1 25 zi_8 rfl rfl rfl (by decide) zm_621 (fun _ h => h) (v := .ref (ad 64)) rfl d_M_isReady_1 ?_
  refine lv_iload_n hx hb d_M_isReady_4 rfl (lv_at hl 1 rfl) ?_
  obtain ⟨r2, σ1, hc3, hf⟩ := zq_cs hf
  refine zr_ci hw (zr_runS (rest := [.ref (ad 64)]) G hw [.int x1] (zc_M_each hJ hc3) (va_cwS 1 hts (zs_gS zm_623 zm_624 zm_551 zm_622) rfl rfl rfl (by decide +kernel) ⟨Nat.le_trans (by decide) hR1, Nat.le_trans (by decide) hR2⟩) rfl hl.1 (Nat.le_of_ble_eq_true rfl) d_M_isReady_5 ⟨Nat.zero_le _, Nat.zero_le _⟩) (fun H locs hw => ?_)
  refine lv_iconst (v := 3) hx hb d_M_isReady_8 (by decide) ?_
  refine lv_iadd hx hb d_M_isReady_9 ?_
  obtain ⟨hi4, hf⟩ := zq_gs hf
  refine zr_iald G hw 64 rfl rfl hi4 d_M_isReady_10 ?_
  refine lv_topi (fun v5 e_v5 => ?_)
  have hf := zq_vs e_v5 hf
  refine lv_istore_n hx hb d_M_isReady_11 rfl hl (by decide) rfl (fun ls hl => ?_)
  have hl : lv_has ls 4 [(2, .int v5), (0, .ref (ad 1)), (1, .int x1)] := hl
  refine lv_aload_n hx hb d_M_isReady_12 rfl (lv_at hl 1 rfl) ?_
  refine zr_get (ci := 8) G hw 1 25 zi_8 rfl rfl rfl (by decide) zm_621 (fun _ h => h) (v := .ref (ad 64)) rfl d_M_isReady_13 ?_
  refine lv_iload_n hx hb d_M_isReady_16 rfl (lv_at hl 2 rfl) ?_
  obtain ⟨r7, σ6, hc8, hf⟩ := zq_cs hf
  refine zr_ci hw (zr_runS (rest := [.ref (ad 64)]) G hw [.int x1] (zc_M_each hJ hc8) (va_cwS 1 hts (zs_gS zm_623 zm_624 zm_551 zm_622) rfl rfl rfl (by decide +kernel) ⟨Nat.le_trans (by decide) hR1, Nat.le_trans (by decide) hR2⟩) rfl hl.1 (Nat.le_of_ble_eq_true rfl) d_M_isReady_17 ⟨Nat.zero_le _, Nat.zero_le _⟩) (fun H locs hw => ?_)
  refine lv_iconst (v := 4) hx hb d_M_isReady_20 (by decide) ?_
  refine lv_iadd hx hb d_M_isReady_21 ?_
  obtain ⟨hi9, hf⟩ := zq_gs hf
  refine zr_iald G hw 64 rfl rfl hi9 d_M_isReady_22 ?_
  refine lv_topi (fun v10 e_v10 => ?_)
  have hf := zq_vs e_v10 hf
  refine lv_istore_n hx hb d_M_isReady_23 rfl hl (by decide) rfl (fun ls hl => ?_)
  have hl : lv_has ls 4 [(3, .int v10), (2, .int v5), (0, .ref (ad 1)), (1, .int x1)] := hl
  refine lv_aload_n hx hb d_M_isReady_24 rfl (lv_at hl 2 rfl) ?_
  refine zr_get (ci := 8) G hw 1 25 zi_8 rfl rfl rfl (by decide) zm_621 (fun _ h => h) (v := .ref (ad 64)) rfl d_M_isReady_25 ?_
  refine lv_bipush (v := 32) hx hb d_M_isReady_28 (by decide) ?_
  obtain ⟨hi11, hf⟩ := zq_gs hf
  refine zr_iald G hw 64 rfl rfl hi11 d_M_isReady_30 ?_
  refine lv_if_gt hx hb d_M_isReady_31 (tgt := 43) rfl (fun hc => ?_) (fun hc => ?_)
  · have hf := (if_pos hc).symm.trans hf
    exact K43 σ6 H locs ls hf hw (lv_sub hl [] rfl)
  · have hf := (if_neg hc).symm.trans hf
    refine lv_iload_n hx hb d_M_isReady_34 rfl (lv_at hl 1 rfl) ?_
    refine lv_if_lt hx hb d_M_isReady_35 (tgt := 43) rfl (fun hc => ?_) (fun hc => ?_)
    · have hf := (if_pos hc).symm.trans hf
      exact K43 σ6 H locs ls hf hw (lv_sub hl [] rfl)
    · have hf := (if_neg hc).symm.trans hf
      refine lv_iload_n hx hb d_M_isReady_38 rfl (lv_at hl 0 rfl) ?_
      refine lv_iconst (v := 1) hx hb d_M_isReady_39 (by decide) ?_
      refine lv_icmp_ne hx hb d_M_isReady_40 (tgt := 45) rfl (fun hc => ?_) (fun hc => ?_)
      · have hf := (if_neg hc).symm.trans hf
        refine lv_iload_n hx hb d_M_isReady_45 rfl (lv_at hl 0 rfl) ?_
        refine lv_iconst (v := 2) hx hb d_M_isReady_46 (by decide) ?_
        refine lv_icmp_eq hx hb d_M_isReady_47 (tgt := 63) rfl (fun hc => ?_) (fun hc => ?_)
        · have hf := (if_pos hc).symm.trans hf
          exact K63 v5 σ6 H locs ls hf hw (lv_sub hl [2, 1] rfl)
        · have hf := (if_neg hc).symm.trans hf
          refine lv_aload_n hx hb d_M_isReady_50 rfl (lv_at hl 2 rfl) ?_
          obtain ⟨q12, e_q12, h_q12, hf⟩ := zq_qs hf
          refine zr_get (ci := 8) G hw 1 2 zi_8 rfl rfl rfl (by decide) zm_616 (fun _ h => h) (v := .ref (ad q12)) (zs_fr rfl e_q12 h_q12) d_M_isReady_51 ?_
          obtain ⟨hs13, hf⟩ := zq_gs hf
          have hs13 := zq_ks hs13
          obtain ⟨q14, e_q14, h_q14, hf⟩ := zq_qs hf
          refine zr_get (ci := 9) G hw q12 7 zi_9 hs13 rfl rfl (by decide) zm_625 (fun _ h => h) (v := .ref (ad q14)) (zs_fs rfl e_q14 h_q14) d_M_isReady_54 ?_
          refine lv_iload_n hx hb d_M_isReady_57 rfl (lv_at hl 1 rfl) ?_
          obtain ⟨hs15, hf⟩ := zq_gs hf
          have hs15 := zq_ks hs15
          obtain ⟨hi16, hf⟩ := zq_gs hf
          refine zr_iald G hw q14 hs15 rfl hi16 d_M_isReady_58 ?_
          refine lv_iconst (v := 1) hx hb d_M_isReady_59 (by decide) ?_
          refine lv_icmp_ne hx hb d_M_isReady_60 (tgt := 83) rfl (fun hc => ?_) (fun hc => ?_)
          · have hf := (if_neg hc).symm.trans hf
            exact K83 σ6 H locs ls hf hw (lv_sub hl [] rfl)
          · have hf := (if_pos hc).symm.trans hf
            exact K63 v5 σ6 H locs ls hf hw (lv_sub hl [2, 1] rfl)
      · have hf := (if_pos hc).symm.trans hf
        exact K43 σ6 H locs ls hf hw (lv_sub hl [] rfl)
/-! ScheduleCheckModel.isState -/
def y_M_isState : MethodName := ⟨"ScheduleCheckModel","isState","(I)Z"⟩
theorem d_M_isState_0 : decode prog_13_method_32_code 0 = .ok (.iconst 0, 1) := by decide +kernel
theorem d_M_isState_1 : decode prog_13_method_32_code 1 = .ok (.istore_n 2, 1) := by decide +kernel
theorem d_M_isState_2 : decode prog_13_method_32_code 2 = .ok (.iload_n 2, 1) := by decide +kernel
theorem d_M_isState_3 : decode prog_13_method_32_code 3 = .ok (.bipush 34, 2) := by decide +kernel
theorem d_M_isState_5 : decode prog_13_method_32_code 5 = .ok (.if_icmp .ge 31, 3) := by decide +kernel
theorem d_M_isState_8 : decode prog_13_method_32_code 8 = .ok (.aload_n 0, 1) := by decide +kernel
theorem d_M_isState_9 : decode prog_13_method_32_code 9 = .ok (.getfield 27, 3) := by decide +kernel
theorem d_M_isState_12 : decode prog_13_method_32_code 12 = .ok (.bipush 34, 2) := by decide +kernel
theorem d_M_isState_14 : decode prog_13_method_32_code 14 = .ok (.iload_n 1, 1) := by decide +kernel
theorem d_M_isState_15 : decode prog_13_method_32_code 15 = .ok (.imul, 1) := by decide +kernel
theorem d_M_isState_16 : decode prog_13_method_32_code 16 = .ok (.iload_n 2, 1) := by decide +kernel
theorem d_M_isState_17 : decode prog_13_method_32_code 17 = .ok (.iadd, 1) := by decide +kernel
theorem d_M_isState_18 : decode prog_13_method_32_code 18 = .ok (.iaload, 1) := by decide +kernel
theorem d_M_isState_19 : decode prog_13_method_32_code 19 = .ok (.aload_n 0, 1) := by decide +kernel
theorem d_M_isState_20 : decode prog_13_method_32_code 20 = .ok (.getfield 48, 3) := by decide +kernel
theorem d_M_isState_23 : decode prog_13_method_32_code 23 = .ok (.iload_n 2, 1) := by decide +kernel
theorem d_M_isState_24 : decode prog_13_method_32_code 24 = .ok (.iaload, 1) := by decide +kernel
theorem d_M_isState_25 : decode prog_13_method_32_code 25 = .ok (.if_icmp .eq 5, 3) := by decide +kernel
theorem d_M_isState_28 : decode prog_13_method_32_code 28 = .ok (.iconst 0, 1) := by decide +kernel
theorem d_M_isState_29 : decode prog_13_method_32_code 29 = .ok (.ireturn, 1) := by decide +kernel
theorem d_M_isState_30 : decode prog_13_method_32_code 30 = .ok (.iinc 2 1, 3) := by decide +kernel
theorem d_M_isState_33 : decode prog_13_method_32_code 33 = .ok (.goto (-31), 3) := by decide +kernel
theorem d_M_isState_36 : decode prog_13_method_32_code 36 = .ok (.iconst 1, 1) := by decide +kernel
theorem d_M_isState_37 : decode prog_13_method_32_code 37 = .ok (.ireturn, 1) := by decide +kernel
def zf_M_isState_2 (F : Nat)  : Nat → Int32 → Int32 → zs_S → Option (Int32 × zs_S)
  | 0, _, _, _ => none
  | n + 1, x1, x2, σ =>
    if 34 ≤ x2 then (
      some (1, σ)
    ) else (
      zq_g (zq_b ((34 * x1) + x2) 27234) <|
      zq_g (zq_b x2 34) <|
      if (zs_i σ 58 ((34 * x1) + x2).toNatClampNeg) = (zs_i σ 65 (x2).toNatClampNeg) then (
        zq_v (x2 + 1) fun v3 =>
        (zf_M_isState_2 F n) x1 v3 σ
      ) else (
        some (0, σ)
      )
    )
def zf_M_isState (F : Nat) (x1 : Int32) (σ : zs_S) : Option (Int32 × zs_S) :=
  zf_M_isState_2 F F x1 0 σ
set_option maxHeartbeats 4000000 in
set_option maxRecDepth 100000 in
theorem zc_M_isState {l : Launch} {D : va_G} {cA : Nat → ClassId} {ad : Nat → Nat} {A : Nat → Prop} {F : Nat} {x1 : Int32} {σ : zs_S} {q : Int32 × zs_S} (hJ : zs_J ad) (hf : zf_M_isState F x1 σ = some q) : Met l y_M_isState (.code y_M_isState prog_13_method_32_code 3 (some .boolean) :: zd_ww) { frames := 0, cells := 0, slots := 0, locals := 0 } (va_Pc [.ref (ad 1), .int x1] (zs_U 1 D cA ad A σ)) (zs_Qi 1 D cA ad A q) 0 0 A := by
  refine Met.ofW (cc := prog_13_method_32_code) (maxL := 3) (ret := (some .boolean)) (by decide) rfl ?_
  intro p e s m args below meth c s₁ B hml hv
  obtain ⟨hargs, hP, hK, hD, hZ⟩ := hv
  have G : zs_G 1 p s m args c prog_13_method_32_code 3 "ScheduleCheckModel" D cA ad A := ⟨⟨B.exec, B.bytes, hml, findClass_of_methodNamed B.named, fun w h => atoms_spec B.pre w (List.mem_cons_of_mem _ h)⟩, hK, hJ, hZ⟩
  have hw : zs_I 1 D cA ad A s σ s.heap [] := ⟨hP, hD, va_S.rf⟩
  have hx := G.1.1
  have hb := G.1.2.1
  have hown := G.1.2.2.2.1
  have hts := G.1.2.2.2.2
  have hr := B.returns
  have hlocks := B.notSynchronized
  have he : entryFrame m args 3 = F0 m 0 ((lg_sl [.ref (ad 1), .int x1] ++ List.replicate (3 - (lg_sl [.ref (ad 1), .int x1]).length) Slot.unset).toArray) [] := by rw [hargs]; exact lg_entry_eq m _ 3
  have hl := lv_entry [.ref (ad 1), .int x1] (n := 3) (Nat.le_of_ble_eq_true rfl)
  rw [he]
  generalize (lg_sl [.ref (ad 1), .int x1] ++ List.replicate (3 - (lg_sl [.ref (ad 1), .int x1]).length) Slot.unset).toArray = ls at hl
  have hl : lv_has ls 3 [(0, .ref (ad 1)), (1, .int x1)] := hl
  obtain ⟨RR, hR⟩ : ∃ z, z = (headSpec (.code y_M_isState prog_13_method_32_code 3 (some .boolean) :: zd_ww) { frames := 0, cells := 0, slots := 0, locals := 0 }).room := ⟨_, rfl⟩
  rw [← hR]
  obtain ⟨QQ, hQ⟩ : ∃ z, z = MQ below (zs_Qi 1 D cA ad A q) args s 0 0 A := ⟨_, rfl⟩
  rw [← hQ]
  have hR1 : 0 ≤ RR.frames := by rw [hR]; exact Nat.le_refl _
  have hR2 : 0 ≤ RR.locals := by rw [hR]; exact Nat.le_refl _
  generalize s.heap = H at hw ⊢
  generalize ([] : List Loc) = locs at hw ⊢
  have K2 : ∀ (n : Nat) (x1 : Int32) (x2 : Int32) (σ : zs_S) (H : Heap) (locs : List Loc) (ls : Array Slot), zf_M_isState_2 F n x1 x2 σ = some q → zs_I 1 D cA ad A s σ H locs → lv_has ls 3 [(0, .ref (ad 1)), (1, .int x1), (2, .int x2)] → W p l e RR s m args below meth c H locs 0 0 QQ (F0 m 2 ls []) := by
    intro  n
    induction n with
    | zero => intro x1 x2 σ H locs ls hf hw hl; exact nomatch (show (none : Option (Int32 × zs_S)) = some q from hf)
    | succ n ih =>
      intro x1 x2 σ H locs ls hf hw hl
      rw [zf_M_isState_2] at hf
      refine lv_iload_n hx hb d_M_isState_2 rfl (lv_at hl 2 rfl) ?_
      refine lv_bipush (v := 34) hx hb d_M_isState_3 (by decide) ?_
      refine lv_icmp_ge hx hb d_M_isState_5 (tgt := 36) rfl (fun hc => ?_) (fun hc => ?_)
      · have hf := (if_pos hc).symm.trans hf
        refine lv_iconst (v := 1) hx hb d_M_isState_36 (by decide) ?_
        exact zr_zret G hw hr hlocks (by decide) hf hQ d_M_isState_37
      · have hf := (if_neg hc).symm.trans hf
        refine lv_aload_n hx hb d_M_isState_8 rfl (lv_at hl 0 rfl) ?_
        refine zr_get (ci := 8) G hw 1 17 zi_8 rfl rfl rfl (by decide) zm_627 (fun _ h => h) (v := .ref (ad 58)) rfl d_M_isState_9 ?_
        refine lv_bipush (v := 34) hx hb d_M_isState_12 (by decide) ?_
        refine lv_iload_n hx hb d_M_isState_14 rfl (lv_at hl 1 rfl) ?_
        refine lv_imul hx hb d_M_isState_15 ?_
        refine lv_iload_n hx hb d_M_isState_16 rfl (lv_at hl 2 rfl) ?_
        refine lv_iadd hx hb d_M_isState_17 ?_
        obtain ⟨hi1, hf⟩ := zq_gs hf
        refine zr_iald G hw 58 rfl rfl hi1 d_M_isState_18 ?_
        refine lv_aload_n hx hb d_M_isState_19 rfl (lv_at hl 0 rfl) ?_
        refine zr_get (ci := 8) G hw 1 26 zi_8 rfl rfl rfl (by decide) zm_628 (fun _ h => h) (v := .ref (ad 65)) rfl d_M_isState_20 ?_
        refine lv_iload_n hx hb d_M_isState_23 rfl (lv_at hl 2 rfl) ?_
        obtain ⟨hi2, hf⟩ := zq_gs hf
        refine zr_iald G hw 65 rfl rfl hi2 d_M_isState_24 ?_
        refine lv_icmp_eq hx hb d_M_isState_25 (tgt := 30) rfl (fun hc => ?_) (fun hc => ?_)
        · have hf := (if_pos hc).symm.trans hf
          obtain ⟨v3, e_v3, hf⟩ := zq_ss hf
          refine lv_iinc (v := v3) hx hb d_M_isState_30 hl (k := 2) rfl (zq_inc (k := 1) (by decide) e_v3) (by decide) rfl (fun ls hl => ?_)
          have hl : lv_has ls 3 [(2, .int v3), (0, .ref (ad 1)), (1, .int x1)] := hl
          refine lv_goto hx hb d_M_isState_33 (tgt := 2) rfl ?_
          exact ih x1 v3 σ H locs ls hf hw (lv_sub hl [1, 2, 0] rfl)
        · have hf := (if_neg hc).symm.trans hf
          refine lv_iconst (v := 0) hx hb d_M_isState_28 (by decide) ?_
          exact zr_zret G hw hr hlocks (by decide) hf hQ d_M_isState_29
  unfold zf_M_isState at hf
  refine lv_iconst (v := 0) hx hb d_M_isState_0 (by decide) ?_
  refine lv_istore_n hx hb d_M_isState_1 rfl hl (by decide) rfl (fun ls hl => ?_)
  have hl : lv_has ls 3 [(2, .int 0), (0, .ref (ad 1)), (1, .int x1)] := hl
  exact K2 F x1 0 σ H locs ls hf hw (lv_sub hl [1, 2, 0] rfl)
/-! ScheduleCheckModel.reach -/
def y_M_reach : MethodName := ⟨"ScheduleCheckModel","reach","()Z"⟩
theorem d_M_reach_0 : decode prog_13_method_31_code 0 = .ok (.iconst 0, 1) := by decide +kernel
theorem d_M_reach_1 : decode prog_13_method_31_code 1 = .ok (.istore_n 1, 1) := by decide +kernel
theorem d_M_reach_2 : decode prog_13_method_31_code 2 = .ok (.iload_n 1, 1) := by decide +kernel
theorem d_M_reach_3 : decode prog_13_method_31_code 3 = .ok (.aload_n 0, 1) := by decide +kernel
theorem d_M_reach_4 : decode prog_13_method_31_code 4 = .ok (.getfield 304, 3) := by decide +kernel
theorem d_M_reach_7 : decode prog_13_method_31_code 7 = .ok (.if_icmp .ge 17, 3) := by decide +kernel
theorem d_M_reach_10 : decode prog_13_method_31_code 10 = .ok (.aload_n 0, 1) := by decide +kernel
theorem d_M_reach_11 : decode prog_13_method_31_code 11 = .ok (.iload_n 1, 1) := by decide +kernel
theorem d_M_reach_12 : decode prog_13_method_31_code 12 = .ok (.invokevirtual 307, 3) := by decide +kernel
theorem d_M_reach_15 : decode prog_13_method_31_code 15 = .ok (.ifCond .ne 9, 3) := by decide +kernel
theorem d_M_reach_18 : decode prog_13_method_31_code 18 = .ok (.iinc 1 1, 3) := by decide +kernel
theorem d_M_reach_21 : decode prog_13_method_31_code 21 = .ok (.goto (-19), 3) := by decide +kernel
theorem d_M_reach_24 : decode prog_13_method_31_code 24 = .ok (.iload_n 1, 1) := by decide +kernel
theorem d_M_reach_25 : decode prog_13_method_31_code 25 = .ok (.aload_n 0, 1) := by decide +kernel
theorem d_M_reach_26 : decode prog_13_method_31_code 26 = .ok (.getfield 304, 3) := by decide +kernel
theorem d_M_reach_29 : decode prog_13_method_31_code 29 = .ok (.if_icmp .ne 103, 3) := by decide +kernel
theorem d_M_reach_32 : decode prog_13_method_31_code 32 = .ok (.aload_n 0, 1) := by decide +kernel
theorem d_M_reach_33 : decode prog_13_method_31_code 33 = .ok (.getfield 304, 3) := by decide +kernel
theorem d_M_reach_36 : decode prog_13_method_31_code 36 = .ok (.sipush 800, 3) := by decide +kernel
theorem d_M_reach_39 : decode prog_13_method_31_code 39 = .ok (.if_icmp .ne 5, 3) := by decide +kernel
theorem d_M_reach_42 : decode prog_13_method_31_code 42 = .ok (.iconst 0, 1) := by decide +kernel
theorem d_M_reach_43 : decode prog_13_method_31_code 43 = .ok (.ireturn, 1) := by decide +kernel
theorem d_M_reach_44 : decode prog_13_method_31_code 44 = .ok (.aload_n 0, 1) := by decide +kernel
theorem d_M_reach_45 : decode prog_13_method_31_code 45 = .ok (.getfield 48, 3) := by decide +kernel
theorem d_M_reach_48 : decode prog_13_method_31_code 48 = .ok (.iconst 0, 1) := by decide +kernel
theorem d_M_reach_49 : decode prog_13_method_31_code 49 = .ok (.aload_n 0, 1) := by decide +kernel
theorem d_M_reach_50 : decode prog_13_method_31_code 50 = .ok (.getfield 27, 3) := by decide +kernel
theorem d_M_reach_53 : decode prog_13_method_31_code 53 = .ok (.bipush 34, 2) := by decide +kernel
theorem d_M_reach_55 : decode prog_13_method_31_code 55 = .ok (.aload_n 0, 1) := by decide +kernel
theorem d_M_reach_56 : decode prog_13_method_31_code 56 = .ok (.getfield 304, 3) := by decide +kernel
theorem d_M_reach_59 : decode prog_13_method_31_code 59 = .ok (.imul, 1) := by decide +kernel
theorem d_M_reach_60 : decode prog_13_method_31_code 60 = .ok (.bipush 34, 2) := by decide +kernel
theorem d_M_reach_62 : decode prog_13_method_31_code 62 = .ok (.invokestatic 310, 3) := by decide +kernel
theorem d_M_reach_65 : decode prog_13_method_31_code 65 = .ok (.aload_n 0, 1) := by decide +kernel
theorem d_M_reach_66 : decode prog_13_method_31_code 66 = .ok (.getfield 30, 3) := by decide +kernel
theorem d_M_reach_69 : decode prog_13_method_31_code 69 = .ok (.aload_n 0, 1) := by decide +kernel
theorem d_M_reach_70 : decode prog_13_method_31_code 70 = .ok (.getfield 304, 3) := by decide +kernel
theorem d_M_reach_73 : decode prog_13_method_31_code 73 = .ok (.aload_n 0, 1) := by decide +kernel
theorem d_M_reach_74 : decode prog_13_method_31_code 74 = .ok (.getfield 316, 3) := by decide +kernel
theorem d_M_reach_77 : decode prog_13_method_31_code 77 = .ok (.ifCond .ge 7, 3) := by decide +kernel
theorem d_M_reach_80 : decode prog_13_method_31_code 80 = .ok (.iconst 0, 1) := by decide +kernel
theorem d_M_reach_81 : decode prog_13_method_31_code 81 = .ok (.goto 14, 3) := by decide +kernel
theorem d_M_reach_84 : decode prog_13_method_31_code 84 = .ok (.aload_n 0, 1) := by decide +kernel
theorem d_M_reach_85 : decode prog_13_method_31_code 85 = .ok (.getfield 30, 3) := by decide +kernel
theorem d_M_reach_88 : decode prog_13_method_31_code 88 = .ok (.aload_n 0, 1) := by decide +kernel
theorem d_M_reach_89 : decode prog_13_method_31_code 89 = .ok (.getfield 316, 3) := by decide +kernel
theorem d_M_reach_92 : decode prog_13_method_31_code 92 = .ok (.iaload, 1) := by decide +kernel
theorem d_M_reach_93 : decode prog_13_method_31_code 93 = .ok (.iconst 1, 1) := by decide +kernel
theorem d_M_reach_94 : decode prog_13_method_31_code 94 = .ok (.iadd, 1) := by decide +kernel
theorem d_M_reach_95 : decode prog_13_method_31_code 95 = .ok (.iastore, 1) := by decide +kernel
theorem d_M_reach_96 : decode prog_13_method_31_code 96 = .ok (.aload_n 0, 1) := by decide +kernel
theorem d_M_reach_97 : decode prog_13_method_31_code 97 = .ok (.getfield 33, 3) := by decide +kernel
theorem d_M_reach_100 : decode prog_13_method_31_code 100 = .ok (.aload_n 0, 1) := by decide +kernel
theorem d_M_reach_101 : decode prog_13_method_31_code 101 = .ok (.getfield 304, 3) := by decide +kernel
theorem d_M_reach_104 : decode prog_13_method_31_code 104 = .ok (.aload_n 0, 1) := by decide +kernel
theorem d_M_reach_105 : decode prog_13_method_31_code 105 = .ok (.getfield 319, 3) := by decide +kernel
theorem d_M_reach_108 : decode prog_13_method_31_code 108 = .ok (.iastore, 1) := by decide +kernel
theorem d_M_reach_109 : decode prog_13_method_31_code 109 = .ok (.aload_n 0, 1) := by decide +kernel
theorem d_M_reach_110 : decode prog_13_method_31_code 110 = .ok (.getfield 36, 3) := by decide +kernel
theorem d_M_reach_113 : decode prog_13_method_31_code 113 = .ok (.aload_n 0, 1) := by decide +kernel
theorem d_M_reach_114 : decode prog_13_method_31_code 114 = .ok (.getfield 304, 3) := by decide +kernel
theorem d_M_reach_117 : decode prog_13_method_31_code 117 = .ok (.aload_n 0, 1) := by decide +kernel
theorem d_M_reach_118 : decode prog_13_method_31_code 118 = .ok (.getfield 316, 3) := by decide +kernel
theorem d_M_reach_121 : decode prog_13_method_31_code 121 = .ok (.iastore, 1) := by decide +kernel
theorem d_M_reach_122 : decode prog_13_method_31_code 122 = .ok (.aload_n 0, 1) := by decide +kernel
theorem d_M_reach_123 : decode prog_13_method_31_code 123 = .ok (.dup, 1) := by decide +kernel
theorem d_M_reach_124 : decode prog_13_method_31_code 124 = .ok (.getfield 304, 3) := by decide +kernel
theorem d_M_reach_127 : decode prog_13_method_31_code 127 = .ok (.iconst 1, 1) := by decide +kernel
theorem d_M_reach_128 : decode prog_13_method_31_code 128 = .ok (.iadd, 1) := by decide +kernel
theorem d_M_reach_129 : decode prog_13_method_31_code 129 = .ok (.putfield 304, 3) := by decide +kernel
theorem d_M_reach_132 : decode prog_13_method_31_code 132 = .ok (.aload_n 0, 1) := by decide +kernel
theorem d_M_reach_133 : decode prog_13_method_31_code 133 = .ok (.getfield 316, 3) := by decide +kernel
theorem d_M_reach_136 : decode prog_13_method_31_code 136 = .ok (.ifCond .lt 23, 3) := by decide +kernel
theorem d_M_reach_139 : decode prog_13_method_31_code 139 = .ok (.aload_n 0, 1) := by decide +kernel
theorem d_M_reach_140 : decode prog_13_method_31_code 140 = .ok (.getfield 42, 3) := by decide +kernel
theorem d_M_reach_143 : decode prog_13_method_31_code 143 = .ok (.aload_n 0, 1) := by decide +kernel
theorem d_M_reach_144 : decode prog_13_method_31_code 144 = .ok (.getfield 321, 3) := by decide +kernel
theorem d_M_reach_147 : decode prog_13_method_31_code 147 = .ok (.iload_n 1, 1) := by decide +kernel
theorem d_M_reach_148 : decode prog_13_method_31_code 148 = .ok (.iastore, 1) := by decide +kernel
theorem d_M_reach_149 : decode prog_13_method_31_code 149 = .ok (.aload_n 0, 1) := by decide +kernel
theorem d_M_reach_150 : decode prog_13_method_31_code 150 = .ok (.dup, 1) := by decide +kernel
theorem d_M_reach_151 : decode prog_13_method_31_code 151 = .ok (.getfield 321, 3) := by decide +kernel
theorem d_M_reach_154 : decode prog_13_method_31_code 154 = .ok (.iconst 1, 1) := by decide +kernel
theorem d_M_reach_155 : decode prog_13_method_31_code 155 = .ok (.iadd, 1) := by decide +kernel
theorem d_M_reach_156 : decode prog_13_method_31_code 156 = .ok (.putfield 321, 3) := by decide +kernel
theorem d_M_reach_159 : decode prog_13_method_31_code 159 = .ok (.iconst 1, 1) := by decide +kernel
theorem d_M_reach_160 : decode prog_13_method_31_code 160 = .ok (.ireturn, 1) := by decide +kernel
def zf_M_reach_159 (F : Nat)   (σ : zs_S) : Option (Int32 × zs_S) :=
  some (1, σ)
def zf_M_reach_132 (F : Nat)  (x1 : Int32) (σ : zs_S) : Option (Int32 × zs_S) :=
  if (zs_i σ 1 28) < 0 then (
    zf_M_reach_159 F σ
  ) else (
    zq_g (zq_b (zs_i σ 1 24) 12800) <|
    zq_v (zs_wi σ 63 ((zs_i σ 1 24).toNatClampNeg) x1) fun σ16 =>
    zq_v (zs_wi σ16 1 24 ((zs_i σ16 1 24) + 1)) fun σ17 =>
    zf_M_reach_159 F σ17
  )
def zf_M_reach_95 (F : Nat)  (x1 : Int32) (t0 : Int32) (t1 : Int32) (σ : zs_S) : Option (Int32 × zs_S) :=
  zq_g (zq_b t1 801) <|
  zq_v (zs_wi σ 59 ((t1).toNatClampNeg) t0) fun σ9 =>
  zq_g (zq_b (zs_i σ9 1 23) 801) <|
  zq_v (zs_wi σ9 60 ((zs_i σ9 1 23).toNatClampNeg) (zs_i σ9 1 29)) fun σ11 =>
  zq_g (zq_b (zs_i σ11 1 23) 801) <|
  zq_v (zs_wi σ11 61 ((zs_i σ11 1 23).toNatClampNeg) (zs_i σ11 1 28)) fun σ13 =>
  zq_v (zs_wi σ13 1 23 ((zs_i σ13 1 23) + 1)) fun σ14 =>
  zf_M_reach_132 F x1 σ14
def zf_M_reach_24 (F : Nat)  (x1 : Int32) (σ : zs_S) : Option (Int32 × zs_S) :=
  if x1 = (zs_i σ 1 23) then (
    if (zs_i σ 1 23) = 800 then (
      some (0, σ)
    ) else (
      zq_g (zq_cp 0 σ 65 0 (34 * (zs_i σ 1 23)) 34 34 27234) <|
      zq_v (zs_cp σ 65 58 (0 : Int32).toNatClampNeg (34 * (zs_i σ 1 23) : Int32).toNatClampNeg (34 : Int32).toNatClampNeg) fun σ6 =>
      if 0 ≤ (zs_i σ6 1 28) then (
        zq_g (zq_b (zs_i σ6 1 28) 801) <|
        zf_M_reach_95 F x1 ((zs_i σ6 59 (zs_i σ6 1 28).toNatClampNeg) + 1) (zs_i σ6 1 23) σ6
      ) else (
        zf_M_reach_95 F x1 0 (zs_i σ6 1 23) σ6
      )
    )
  ) else (
    zf_M_reach_132 F x1 σ
  )
def zf_M_reach_2 (F : Nat)  : Nat → Int32 → zs_S → Option (Int32 × zs_S)
  | 0, _, _ => none
  | n + 1, x1, σ =>
    if (zs_i σ 1 23) ≤ x1 then (
      zf_M_reach_24 F x1 σ
    ) else (
      zq_c (zf_M_isState F x1 σ) fun r2 σ1 =>
      if r2 = 0 then (
        zq_v (x1 + 1) fun v4 =>
        (zf_M_reach_2 F n) v4 σ1
      ) else (
        zf_M_reach_24 F x1 σ1
      )
    )
def zf_M_reach (F : Nat)  (σ : zs_S) : Option (Int32 × zs_S) :=
  zf_M_reach_2 F F 0 σ
set_option maxHeartbeats 4000000 in
set_option maxRecDepth 100000 in
theorem zc_M_reach {l : Launch} {D : va_G} {cA : Nat → ClassId} {ad : Nat → Nat} {A : Nat → Prop} {F : Nat}  {σ : zs_S} {q : Int32 × zs_S} (hJ : zs_J ad) (hf : zf_M_reach F  σ = some q) : Met l y_M_reach (.code y_M_reach prog_13_method_31_code 2 (some .boolean) :: zd_ww) { frames := 1, cells := 0, slots := 0, locals := 60 } (va_Pc [.ref (ad 1)] (zs_U 1 D cA ad A σ)) (zs_Qi 1 D cA ad A q) 0 0 A := by
  refine Met.ofW (cc := prog_13_method_31_code) (maxL := 2) (ret := (some .boolean)) (by decide) rfl ?_
  intro p e s m args below meth c s₁ B hml hv
  obtain ⟨hargs, hP, hK, hD, hZ⟩ := hv
  have G : zs_G 1 p s m args c prog_13_method_31_code 2 "ScheduleCheckModel" D cA ad A := ⟨⟨B.exec, B.bytes, hml, findClass_of_methodNamed B.named, fun w h => atoms_spec B.pre w (List.mem_cons_of_mem _ h)⟩, hK, hJ, hZ⟩
  have hw : zs_I 1 D cA ad A s σ s.heap [] := ⟨hP, hD, va_S.rf⟩
  have hx := G.1.1
  have hb := G.1.2.1
  have hown := G.1.2.2.2.1
  have hts := G.1.2.2.2.2
  have hr := B.returns
  have hlocks := B.notSynchronized
  have he : entryFrame m args 2 = F0 m 0 ((lg_sl [.ref (ad 1)] ++ List.replicate (2 - (lg_sl [.ref (ad 1)]).length) Slot.unset).toArray) [] := by rw [hargs]; exact lg_entry_eq m _ 2
  have hl := lv_entry [.ref (ad 1)] (n := 2) (Nat.le_of_ble_eq_true rfl)
  rw [he]
  generalize (lg_sl [.ref (ad 1)] ++ List.replicate (2 - (lg_sl [.ref (ad 1)]).length) Slot.unset).toArray = ls at hl
  have hl : lv_has ls 2 [(0, .ref (ad 1))] := hl
  obtain ⟨RR, hR⟩ : ∃ z, z = (headSpec (.code y_M_reach prog_13_method_31_code 2 (some .boolean) :: zd_ww) { frames := 1, cells := 0, slots := 0, locals := 60 }).room := ⟨_, rfl⟩
  rw [← hR]
  obtain ⟨QQ, hQ⟩ : ∃ z, z = MQ below (zs_Qi 1 D cA ad A q) args s 0 0 A := ⟨_, rfl⟩
  rw [← hQ]
  have hR1 : 1 ≤ RR.frames := by rw [hR]; exact Nat.le_refl _
  have hR2 : 60 ≤ RR.locals := by rw [hR]; exact Nat.le_refl _
  generalize s.heap = H at hw ⊢
  generalize ([] : List Loc) = locs at hw ⊢
  have K159 : ∀ (σ : zs_S) (H : Heap) (locs : List Loc) (ls : Array Slot), zf_M_reach_159 F σ = some q → zs_I 1 D cA ad A s σ H locs → lv_has ls 2 [] → W p l e RR s m args below meth c H locs 0 0 QQ (F0 m 159 ls []) := by
    intro   σ H locs ls hf hw hl
    unfold zf_M_reach_159 at hf
    refine lv_iconst (v := 1) hx hb d_M_reach_159 (by decide) ?_
    exact zr_zret G hw hr hlocks (by decide) hf hQ d_M_reach_160
  have K132 : ∀ (x1 : Int32) (σ : zs_S) (H : Heap) (locs : List Loc) (ls : Array Slot), zf_M_reach_132 F x1 σ = some q → zs_I 1 D cA ad A s σ H locs → lv_has ls 2 [(0, .ref (ad 1)), (1, .int x1)] → W p l e RR s m args below meth c H locs 0 0 QQ (F0 m 132 ls []) := by
    intro  x1 σ H locs ls hf hw hl
    unfold zf_M_reach_132 at hf
    refine lv_aload_n hx hb d_M_reach_132 rfl (lv_at hl 0 rfl) ?_
    refine zr_get (ci := 8) G hw 1 28 zi_8 rfl rfl rfl (by decide) zm_636 (fun _ h => h) (v := .int (zs_i σ 1 28)) rfl d_M_reach_133 ?_
    refine lv_if_lt hx hb d_M_reach_136 (tgt := 159) rfl (fun hc => ?_) (fun hc => ?_)
    · have hf := (if_pos hc).symm.trans hf
      exact K159 σ H locs ls hf hw (lv_sub hl [] rfl)
    · have hf := (if_neg hc).symm.trans hf
      refine lv_aload_n hx hb d_M_reach_139 rfl (lv_at hl 0 rfl) ?_
      refine zr_get (ci := 8) G hw 1 22 zi_8 rfl rfl rfl (by decide) zm_640 (fun _ h => h) (v := .ref (ad 63)) rfl d_M_reach_140 ?_
      refine lv_aload_n hx hb d_M_reach_143 rfl (lv_at hl 0 rfl) ?_
      refine zr_get (ci := 8) G hw 1 24 zi_8 rfl rfl rfl (by decide) zm_641 (fun _ h => h) (v := .int (zs_i σ 1 24)) rfl d_M_reach_144 ?_
      refine lv_iload_n hx hb d_M_reach_147 rfl (lv_at hl 1 rfl) ?_
      obtain ⟨hi15, hf⟩ := zq_gs hf
      obtain ⟨σ16, e_σ16, hf⟩ := zq_ss hf
      refine zr_iast G hw 63 rfl rfl  hi15  d_M_reach_148 (fun H locs hw => ?_)
      rw [← e_σ16] at hw
      refine lv_aload_n hx hb d_M_reach_149 rfl (lv_at hl 0 rfl) ?_
      refine lv_dup hx hb d_M_reach_150 rfl ?_
      refine zr_get (ci := 8) G hw 1 24 zi_8 rfl rfl rfl (by decide) zm_641 (fun _ h => h) (v := .int (zs_i σ16 1 24)) rfl d_M_reach_151 ?_
      refine lv_iconst (v := 1) hx hb d_M_reach_154 (by decide) ?_
      refine lv_iadd hx hb d_M_reach_155 ?_
      obtain ⟨σ17, e_σ17, hf⟩ := zq_ss hf
      refine zr_puti (ci := 8) G hw 1 24 zi_8 t_zd8 t_zd8_ok n_zd8 rfl rfl rfl (by decide) rfl zm_641 (fun _ h => h) rfl (x := ((zs_i σ16 1 24) + 1)) (t_zd8_ok 24 (by decide)) rfl rfl d_M_reach_156 (fun H locs hw => ?_)
      rw [← e_σ17] at hw
      exact K159 σ17 H locs ls hf hw (lv_sub hl [] rfl)
  have K95 : ∀ (x1 : Int32) (t0 : Int32) (t1 : Int32) (σ : zs_S) (H : Heap) (locs : List Loc) (ls : Array Slot), zf_M_reach_95 F x1 t0 t1 σ = some q → zs_I 1 D cA ad A s σ H locs → lv_has ls 2 [(0, .ref (ad 1)), (1, .int x1)] → W p l e RR s m args below meth c H locs 0 0 QQ (F0 m 95 ls [.int t0, .int t1, .ref (ad 59)]) := by
    intro  x1 t0 t1 σ H locs ls hf hw hl
    unfold zf_M_reach_95 at hf
    obtain ⟨hi8, hf⟩ := zq_gs hf
    obtain ⟨σ9, e_σ9, hf⟩ := zq_ss hf
    refine zr_iast G hw 59 rfl rfl  hi8  d_M_reach_95 (fun H locs hw => ?_)
    rw [← e_σ9] at hw
    refine lv_aload_n hx hb d_M_reach_96 rfl (lv_at hl 0 rfl) ?_
    refine zr_get (ci := 8) G hw 1 19 zi_8 rfl rfl rfl (by decide) zm_637 (fun _ h => h) (v := .ref (ad 60)) rfl d_M_reach_97 ?_
    refine lv_aload_n hx hb d_M_reach_100 rfl (lv_at hl 0 rfl) ?_
    refine zr_get (ci := 8) G hw 1 23 zi_8 rfl rfl rfl (by decide) zm_629 (fun _ h => h) (v := .int (zs_i σ9 1 23)) rfl d_M_reach_101 ?_
    refine lv_aload_n hx hb d_M_reach_104 rfl (lv_at hl 0 rfl) ?_
    refine zr_get (ci := 8) G hw 1 29 zi_8 rfl rfl rfl (by decide) zm_638 (fun _ h => h) (v := .int (zs_i σ9 1 29)) rfl d_M_reach_105 ?_
    obtain ⟨hi10, hf⟩ := zq_gs hf
    obtain ⟨σ11, e_σ11, hf⟩ := zq_ss hf
    refine zr_iast G hw 60 rfl rfl  hi10  d_M_reach_108 (fun H locs hw => ?_)
    rw [← e_σ11] at hw
    refine lv_aload_n hx hb d_M_reach_109 rfl (lv_at hl 0 rfl) ?_
    refine zr_get (ci := 8) G hw 1 20 zi_8 rfl rfl rfl (by decide) zm_639 (fun _ h => h) (v := .ref (ad 61)) rfl d_M_reach_110 ?_
    refine lv_aload_n hx hb d_M_reach_113 rfl (lv_at hl 0 rfl) ?_
    refine zr_get (ci := 8) G hw 1 23 zi_8 rfl rfl rfl (by decide) zm_629 (fun _ h => h) (v := .int (zs_i σ11 1 23)) rfl d_M_reach_114 ?_
    refine lv_aload_n hx hb d_M_reach_117 rfl (lv_at hl 0 rfl) ?_
    refine zr_get (ci := 8) G hw 1 28 zi_8 rfl rfl rfl (by decide) zm_636 (fun _ h => h) (v := .int (zs_i σ11 1 28)) rfl d_M_reach_118 ?_
    obtain ⟨hi12, hf⟩ := zq_gs hf
    obtain ⟨σ13, e_σ13, hf⟩ := zq_ss hf
    refine zr_iast G hw 61 rfl rfl  hi12  d_M_reach_121 (fun H locs hw => ?_)
    rw [← e_σ13] at hw
    refine lv_aload_n hx hb d_M_reach_122 rfl (lv_at hl 0 rfl) ?_
    refine lv_dup hx hb d_M_reach_123 rfl ?_
    refine zr_get (ci := 8) G hw 1 23 zi_8 rfl rfl rfl (by decide) zm_629 (fun _ h => h) (v := .int (zs_i σ13 1 23)) rfl d_M_reach_124 ?_
    refine lv_iconst (v := 1) hx hb d_M_reach_127 (by decide) ?_
    refine lv_iadd hx hb d_M_reach_128 ?_
    obtain ⟨σ14, e_σ14, hf⟩ := zq_ss hf
    refine zr_puti (ci := 8) G hw 1 23 zi_8 t_zd8 t_zd8_ok n_zd8 rfl rfl rfl (by decide) rfl zm_629 (fun _ h => h) rfl (x := ((zs_i σ13 1 23) + 1)) (t_zd8_ok 23 (by decide)) rfl rfl d_M_reach_129 (fun H locs hw => ?_)
    rw [← e_σ14] at hw
    exact K132 x1 σ14 H locs ls hf hw (lv_sub hl [0, 1] rfl)
  have K24 : ∀ (x1 : Int32) (σ : zs_S) (H : Heap) (locs : List Loc) (ls : Array Slot), zf_M_reach_24 F x1 σ = some q → zs_I 1 D cA ad A s σ H locs → lv_has ls 2 [(0, .ref (ad 1)), (1, .int x1)] → W p l e RR s m args below meth c H locs 0 0 QQ (F0 m 24 ls []) := by
    intro  x1 σ H locs ls hf hw hl
    unfold zf_M_reach_24 at hf
    refine lv_iload_n hx hb d_M_reach_24 rfl (lv_at hl 1 rfl) ?_
    refine lv_aload_n hx hb d_M_reach_25 rfl (lv_at hl 0 rfl) ?_
    refine zr_get (ci := 8) G hw 1 23 zi_8 rfl rfl rfl (by decide) zm_629 (fun _ h => h) (v := .int (zs_i σ 1 23)) rfl d_M_reach_26 ?_
    refine lv_icmp_ne hx hb d_M_reach_29 (tgt := 132) rfl (fun hc => ?_) (fun hc => ?_)
    · have hf := (if_neg hc).symm.trans hf
      exact K132 x1 σ H locs ls hf hw (lv_sub hl [0, 1] rfl)
    · have hf := (if_pos hc).symm.trans hf
      refine lv_aload_n hx hb d_M_reach_32 rfl (lv_at hl 0 rfl) ?_
      refine zr_get (ci := 8) G hw 1 23 zi_8 rfl rfl rfl (by decide) zm_629 (fun _ h => h) (v := .int (zs_i σ 1 23)) rfl d_M_reach_33 ?_
      refine lv_sipush (v := 800) hx hb d_M_reach_36 (by decide) ?_
      refine lv_icmp_ne hx hb d_M_reach_39 (tgt := 44) rfl (fun hc => ?_) (fun hc => ?_)
      · have hf := (if_neg hc).symm.trans hf
        refine lv_aload_n hx hb d_M_reach_44 rfl (lv_at hl 0 rfl) ?_
        refine zr_get (ci := 8) G hw 1 26 zi_8 rfl rfl rfl (by decide) zm_628 (fun _ h => h) (v := .ref (ad 65)) rfl d_M_reach_45 ?_
        refine lv_iconst (v := 0) hx hb d_M_reach_48 (by decide) ?_
        refine lv_aload_n hx hb d_M_reach_49 rfl (lv_at hl 0 rfl) ?_
        refine zr_get (ci := 8) G hw 1 17 zi_8 rfl rfl rfl (by decide) zm_627 (fun _ h => h) (v := .ref (ad 58)) rfl d_M_reach_50 ?_
        refine lv_bipush (v := 34) hx hb d_M_reach_53 (by decide) ?_
        refine lv_aload_n hx hb d_M_reach_55 rfl (lv_at hl 0 rfl) ?_
        refine zr_get (ci := 8) G hw 1 23 zi_8 rfl rfl rfl (by decide) zm_629 (fun _ h => h) (v := .int (zs_i σ 1 23)) rfl d_M_reach_56 ?_
        refine lv_imul hx hb d_M_reach_59 ?_
        refine lv_bipush (v := 34) hx hb d_M_reach_60 (by decide) ?_
        obtain ⟨hk5, hf⟩ := zq_gs hf
        obtain ⟨σ6, e_σ6, hf⟩ := zq_ss hf
        refine zr_copy (rest := []) G hw 65 58 rfl rfl rfl rfl (by decide) hk5 hl.1 zm_634 zm_26 zm_27 zm_28 (Nat.le_trans (by decide) hR1) (Nat.le_trans (Nat.le_of_ble_eq_true rfl) hR2) d_M_reach_62 (fun H locs hw => ?_)
        rw [← e_σ6] at hw
        refine lv_aload_n hx hb d_M_reach_65 rfl (lv_at hl 0 rfl) ?_
        refine zr_get (ci := 8) G hw 1 18 zi_8 rfl rfl rfl (by decide) zm_635 (fun _ h => h) (v := .ref (ad 59)) rfl d_M_reach_66 ?_
        refine lv_aload_n hx hb d_M_reach_69 rfl (lv_at hl 0 rfl) ?_
        refine zr_get (ci := 8) G hw 1 23 zi_8 rfl rfl rfl (by decide) zm_629 (fun _ h => h) (v := .int (zs_i σ6 1 23)) rfl d_M_reach_70 ?_
        refine lv_aload_n hx hb d_M_reach_73 rfl (lv_at hl 0 rfl) ?_
        refine zr_get (ci := 8) G hw 1 28 zi_8 rfl rfl rfl (by decide) zm_636 (fun _ h => h) (v := .int (zs_i σ6 1 28)) rfl d_M_reach_74 ?_
        refine lv_if_ge hx hb d_M_reach_77 (tgt := 84) rfl (fun hc => ?_) (fun hc => ?_)
        · have hf := (if_pos hc).symm.trans hf
          refine lv_aload_n hx hb d_M_reach_84 rfl (lv_at hl 0 rfl) ?_
          refine zr_get (ci := 8) G hw 1 18 zi_8 rfl rfl rfl (by decide) zm_635 (fun _ h => h) (v := .ref (ad 59)) rfl d_M_reach_85 ?_
          refine lv_aload_n hx hb d_M_reach_88 rfl (lv_at hl 0 rfl) ?_
          refine zr_get (ci := 8) G hw 1 28 zi_8 rfl rfl rfl (by decide) zm_636 (fun _ h => h) (v := .int (zs_i σ6 1 28)) rfl d_M_reach_89 ?_
          obtain ⟨hi7, hf⟩ := zq_gs hf
          refine zr_iald G hw 59 rfl rfl hi7 d_M_reach_92 ?_
          refine lv_iconst (v := 1) hx hb d_M_reach_93 (by decide) ?_
          refine lv_iadd hx hb d_M_reach_94 ?_
          exact K95 x1 ((zs_i σ6 59 (zs_i σ6 1 28).toNatClampNeg) + 1) (zs_i σ6 1 23) σ6 H locs ls hf hw (lv_sub hl [0, 1] rfl)
        · have hf := (if_neg hc).symm.trans hf
          refine lv_iconst (v := 0) hx hb d_M_reach_80 (by decide) ?_
          refine lv_goto hx hb d_M_reach_81 (tgt := 95) rfl ?_
          exact K95 x1 0 (zs_i σ6 1 23) σ6 H locs ls hf hw (lv_sub hl [0, 1] rfl)
      · have hf := (if_pos hc).symm.trans hf
        refine lv_iconst (v := 0) hx hb d_M_reach_42 (by decide) ?_
        exact zr_zret G hw hr hlocks (by decide) hf hQ d_M_reach_43
  have K2 : ∀ (n : Nat) (x1 : Int32) (σ : zs_S) (H : Heap) (locs : List Loc) (ls : Array Slot), zf_M_reach_2 F n x1 σ = some q → zs_I 1 D cA ad A s σ H locs → lv_has ls 2 [(0, .ref (ad 1)), (1, .int x1)] → W p l e RR s m args below meth c H locs 0 0 QQ (F0 m 2 ls []) := by
    intro  n
    induction n with
    | zero => intro x1 σ H locs ls hf hw hl; exact nomatch (show (none : Option (Int32 × zs_S)) = some q from hf)
    | succ n ih =>
      intro x1 σ H locs ls hf hw hl
      rw [zf_M_reach_2] at hf
      refine lv_iload_n hx hb d_M_reach_2 rfl (lv_at hl 1 rfl) ?_
      refine lv_aload_n hx hb d_M_reach_3 rfl (lv_at hl 0 rfl) ?_
      refine zr_get (ci := 8) G hw 1 23 zi_8 rfl rfl rfl (by decide) zm_629 (fun _ h => h) (v := .int (zs_i σ 1 23)) rfl d_M_reach_4 ?_
      refine lv_icmp_ge hx hb d_M_reach_7 (tgt := 24) rfl (fun hc => ?_) (fun hc => ?_)
      · have hf := (if_pos hc).symm.trans hf
        exact K24 x1 σ H locs ls hf hw (lv_sub hl [0, 1] rfl)
      · have hf := (if_neg hc).symm.trans hf
        refine lv_aload_n hx hb d_M_reach_10 rfl (lv_at hl 0 rfl) ?_
        refine lv_iload_n hx hb d_M_reach_11 rfl (lv_at hl 1 rfl) ?_
        obtain ⟨r2, σ1, hc3, hf⟩ := zq_cs hf
        refine zr_ci hw (zr_runV (rest := []) (ci := 8) (o := 1) G hw [.int x1] (zc_M_isState hJ hc3) (cwV 1 hts (zs_gV zm_631 zm_632 zm_633 zm_551 zm_630) rfl rfl rfl (by decide +kernel) ⟨Nat.le_trans (by decide) hR1, Nat.le_trans (by decide) hR2⟩) rfl rfl rfl hl.1 (Nat.le_of_ble_eq_true rfl) d_M_reach_12 ⟨Nat.zero_le _, Nat.zero_le _⟩) (fun H locs hw => ?_)
        refine lv_if_ne hx hb d_M_reach_15 (tgt := 24) rfl (fun hc => ?_) (fun hc => ?_)
        · have hf := (if_neg hc).symm.trans hf
          exact K24 x1 σ1 H locs ls hf hw (lv_sub hl [0, 1] rfl)
        · have hf := (if_pos hc).symm.trans hf
          obtain ⟨v4, e_v4, hf⟩ := zq_ss hf
          refine lv_iinc (v := v4) hx hb d_M_reach_18 hl (k := 1) rfl (zq_inc (k := 1) (by decide) e_v4) (by decide) rfl (fun ls hl => ?_)
          have hl : lv_has ls 2 [(1, .int v4), (0, .ref (ad 1))] := hl
          refine lv_goto hx hb d_M_reach_21 (tgt := 2) rfl ?_
          exact ih v4 σ1 H locs ls hf hw (lv_sub hl [1, 0] rfl)
  unfold zf_M_reach at hf
  refine lv_iconst (v := 0) hx hb d_M_reach_0 (by decide) ?_
  refine lv_istore_n hx hb d_M_reach_1 rfl hl (by decide) rfl (fun ls hl => ?_)
  have hl : lv_has ls 2 [(1, .int 0), (0, .ref (ad 1))] := hl
  exact K2 F 0 σ H locs ls hf hw (lv_sub hl [1, 0] rfl)
/-! ScheduleCheckModel.goOn -/
def y_M_goOn : MethodName := ⟨"ScheduleCheckModel","goOn","(II)V"⟩
theorem d_M_goOn_0 : decode prog_13_method_33_code 0 = .ok (.aload_n 0, 1) := by decide +kernel
theorem d_M_goOn_1 : decode prog_13_method_33_code 1 = .ok (.getfield 48, 3) := by decide +kernel
theorem d_M_goOn_4 : decode prog_13_method_33_code 4 = .ok (.aload_n 0, 1) := by decide +kernel
theorem d_M_goOn_5 : decode prog_13_method_33_code 5 = .ok (.getfield 319, 3) := by decide +kernel
theorem d_M_goOn_8 : decode prog_13_method_33_code 8 = .ok (.invokestatic 296, 3) := by decide +kernel
theorem d_M_goOn_11 : decode prog_13_method_33_code 11 = .ok (.iconst 3, 1) := by decide +kernel
theorem d_M_goOn_12 : decode prog_13_method_33_code 12 = .ok (.iadd, 1) := by decide +kernel
theorem d_M_goOn_13 : decode prog_13_method_33_code 13 = .ok (.aload_n 0, 1) := by decide +kernel
theorem d_M_goOn_14 : decode prog_13_method_33_code 14 = .ok (.getfield 16, 3) := by decide +kernel
theorem d_M_goOn_17 : decode prog_13_method_33_code 17 = .ok (.getfield 225, 3) := by decide +kernel
theorem d_M_goOn_20 : decode prog_13_method_33_code 20 = .ok (.iconst 3, 1) := by decide +kernel
theorem d_M_goOn_21 : decode prog_13_method_33_code 21 = .ok (.iload_n 1, 1) := by decide +kernel
theorem d_M_goOn_22 : decode prog_13_method_33_code 22 = .ok (.imul, 1) := by decide +kernel
theorem d_M_goOn_23 : decode prog_13_method_33_code 23 = .ok (.iload_n 2, 1) := by decide +kernel
theorem d_M_goOn_24 : decode prog_13_method_33_code 24 = .ok (.iadd, 1) := by decide +kernel
theorem d_M_goOn_25 : decode prog_13_method_33_code 25 = .ok (.iaload, 1) := by decide +kernel
theorem d_M_goOn_26 : decode prog_13_method_33_code 26 = .ok (.iastore, 1) := by decide +kernel
theorem d_M_goOn_27 : decode prog_13_method_33_code 27 = .ok (.return_, 1) := by decide +kernel
def zf_M_goOn (F : Nat) (x1 : Int32) (x2 : Int32) (σ : zs_S) : Option (zs_S) :=
  zq_c (zf_M_each F (zs_i σ 1 29) σ) fun r2 σ1 =>
  zq_q (zs_r σ1 1 2) fun q4 =>
  zq_g (zq_k 1 q4 19) <|
  zq_q (zd_rf 1 q4 10) fun q6 =>
  zq_g (zq_k 1 q6 0) <|
  zq_g (zq_b ((3 * x1) + x2) (zd_sh 1 q6).2) <|
  zq_g (zq_b (r2 + 3) 34) <|
  zq_v (zs_wi σ1 65 ((r2 + 3).toNatClampNeg) (zs_i σ1 q6 ((3 * x1) + x2).toNatClampNeg)) fun σ10 =>
  some σ10
set_option maxHeartbeats 4000000 in
set_option maxRecDepth 100000 in
theorem zc_M_goOn {l : Launch} {D : va_G} {cA : Nat → ClassId} {ad : Nat → Nat} {A : Nat → Prop} {F : Nat} {x1 : Int32} {x2 : Int32} {σ : zs_S} {q : zs_S} (hJ : zs_J ad) (hf : zf_M_goOn F x1 x2 σ = some q) : Met l y_M_goOn (.code y_M_goOn prog_13_method_33_code 3 none :: zd_ww) { frames := 1, cells := 0, slots := 0, locals := 20 } (va_Pc [.ref (ad 1), .int x1, .int x2] (zs_U 1 D cA ad A σ)) (zs_Qv 1 D cA ad A q) 0 0 A := by
  refine Met.ofW (cc := prog_13_method_33_code) (maxL := 3) (ret := none) (by decide) rfl ?_
  intro p e s m args below meth c s₁ B hml hv
  obtain ⟨hargs, hP, hK, hD, hZ⟩ := hv
  have G : zs_G 1 p s m args c prog_13_method_33_code 3 "ScheduleCheckModel" D cA ad A := ⟨⟨B.exec, B.bytes, hml, findClass_of_methodNamed B.named, fun w h => atoms_spec B.pre w (List.mem_cons_of_mem _ h)⟩, hK, hJ, hZ⟩
  have hw : zs_I 1 D cA ad A s σ s.heap [] := ⟨hP, hD, va_S.rf⟩
  have hx := G.1.1
  have hb := G.1.2.1
  have hown := G.1.2.2.2.1
  have hts := G.1.2.2.2.2
  have hr := B.returns
  have hlocks := B.notSynchronized
  have he : entryFrame m args 3 = F0 m 0 ((lg_sl [.ref (ad 1), .int x1, .int x2] ++ List.replicate (3 - (lg_sl [.ref (ad 1), .int x1, .int x2]).length) Slot.unset).toArray) [] := by rw [hargs]; exact lg_entry_eq m _ 3
  have hl := lv_entry [.ref (ad 1), .int x1, .int x2] (n := 3) (Nat.le_of_ble_eq_true rfl)
  rw [he]
  generalize (lg_sl [.ref (ad 1), .int x1, .int x2] ++ List.replicate (3 - (lg_sl [.ref (ad 1), .int x1, .int x2]).length) Slot.unset).toArray = ls at hl
  have hl : lv_has ls 3 [(0, .ref (ad 1)), (1, .int x1), (2, .int x2)] := hl
  obtain ⟨RR, hR⟩ : ∃ z, z = (headSpec (.code y_M_goOn prog_13_method_33_code 3 none :: zd_ww) { frames := 1, cells := 0, slots := 0, locals := 20 }).room := ⟨_, rfl⟩
  rw [← hR]
  obtain ⟨QQ, hQ⟩ : ∃ z, z = MQ below (zs_Qv 1 D cA ad A q) args s 0 0 A := ⟨_, rfl⟩
  rw [← hQ]
  have hR1 : 1 ≤ RR.frames := by rw [hR]; exact Nat.le_refl _
  have hR2 : 20 ≤ RR.locals := by rw [hR]; exact Nat.le_refl _
  generalize s.heap = H at hw ⊢
  generalize ([] : List Loc) = locs at hw ⊢
  unfold zf_M_goOn at hf
  refine lv_aload_n hx hb d_M_goOn_0 rfl (lv_at hl 0 rfl) ?_
  refine zr_get (ci := 8) G hw 1 26 zi_8 rfl rfl rfl (by decide) zm_628 (fun _ h => h) (v := .ref (ad 65)) rfl d_M_goOn_1 ?_
  refine lv_aload_n hx hb d_M_goOn_4 rfl (lv_at hl 0 rfl) ?_
  refine zr_get (ci := 8) G hw 1 29 zi_8 rfl rfl rfl (by decide) zm_638 (fun _ h => h) (v := .int (zs_i σ 1 29)) rfl d_M_goOn_5 ?_
  obtain ⟨r2, σ1, hc3, hf⟩ := zq_cs hf
  refine zr_ci hw (zr_runS (rest := [.ref (ad 65)]) G hw [.int (zs_i σ 1 29)] (zc_M_each hJ hc3) (va_cwS 1 hts (zs_gS zm_623 zm_624 zm_551 zm_622) rfl rfl rfl (by decide +kernel) ⟨Nat.le_trans (by decide) hR1, Nat.le_trans (by decide) hR2⟩) rfl hl.1 (Nat.le_of_ble_eq_true rfl) d_M_goOn_8 ⟨Nat.zero_le _, Nat.zero_le _⟩) (fun H locs hw => ?_)
  refine lv_iconst (v := 3) hx hb d_M_goOn_11 (by decide) ?_
  refine lv_iadd hx hb d_M_goOn_12 ?_
  refine lv_aload_n hx hb d_M_goOn_13 rfl (lv_at hl 0 rfl) ?_
  obtain ⟨q4, e_q4, h_q4, hf⟩ := zq_qs hf
  refine zr_get (ci := 8) G hw 1 2 zi_8 rfl rfl rfl (by decide) zm_616 (fun _ h => h) (v := .ref (ad q4)) (zs_fr rfl e_q4 h_q4) d_M_goOn_14 ?_
  obtain ⟨hs5, hf⟩ := zq_gs hf
  have hs5 := zq_ks hs5
  obtain ⟨q6, e_q6, h_q6, hf⟩ := zq_qs hf
  refine zr_get (ci := 9) G hw q4 10 zi_9 hs5 rfl rfl (by decide) zm_588 (fun _ h => h) (v := .ref (ad q6)) (zs_fs rfl e_q6 h_q6) d_M_goOn_17 ?_
  refine lv_iconst (v := 3) hx hb d_M_goOn_20 (by decide) ?_
  refine lv_iload_n hx hb d_M_goOn_21 rfl (lv_at hl 1 rfl) ?_
  refine lv_imul hx hb d_M_goOn_22 ?_
  refine lv_iload_n hx hb d_M_goOn_23 rfl (lv_at hl 2 rfl) ?_
  refine lv_iadd hx hb d_M_goOn_24 ?_
  obtain ⟨hs7, hf⟩ := zq_gs hf
  have hs7 := zq_ks hs7
  obtain ⟨hi8, hf⟩ := zq_gs hf
  refine zr_iald G hw q6 hs7 rfl hi8 d_M_goOn_25 ?_
  obtain ⟨hi9, hf⟩ := zq_gs hf
  obtain ⟨σ10, e_σ10, hf⟩ := zq_ss hf
  refine zr_iast G hw 65 rfl rfl hi9 d_M_goOn_26 (fun H locs hw => ?_)
  rw [← e_σ10] at hw
  exact zr_vret G hw hr hlocks hf hQ d_M_goOn_27
/-! ScheduleCheckModel.wrong -/
def y_M_wrong : MethodName := ⟨"ScheduleCheckModel","wrong","(I)Z"⟩
theorem d_M_wrong_0 : decode prog_13_method_34_code 0 = .ok (.aload_n 0, 1) := by decide +kernel
theorem d_M_wrong_1 : decode prog_13_method_34_code 1 = .ok (.getfield 45, 3) := by decide +kernel
theorem d_M_wrong_4 : decode prog_13_method_34_code 4 = .ok (.iconst 0, 1) := by decide +kernel
theorem d_M_wrong_5 : decode prog_13_method_34_code 5 = .ok (.aload_n 0, 1) := by decide +kernel
theorem d_M_wrong_6 : decode prog_13_method_34_code 6 = .ok (.getfield 48, 3) := by decide +kernel
theorem d_M_wrong_9 : decode prog_13_method_34_code 9 = .ok (.iconst 0, 1) := by decide +kernel
theorem d_M_wrong_10 : decode prog_13_method_34_code 10 = .ok (.bipush 34, 2) := by decide +kernel
theorem d_M_wrong_12 : decode prog_13_method_34_code 12 = .ok (.invokestatic 310, 3) := by decide +kernel
theorem d_M_wrong_15 : decode prog_13_method_34_code 15 = .ok (.aload_n 0, 1) := by decide +kernel
theorem d_M_wrong_16 : decode prog_13_method_34_code 16 = .ok (.getfield 48, 3) := by decide +kernel
theorem d_M_wrong_19 : decode prog_13_method_34_code 19 = .ok (.bipush 32, 2) := by decide +kernel
theorem d_M_wrong_21 : decode prog_13_method_34_code 21 = .ok (.iload_n 1, 1) := by decide +kernel
theorem d_M_wrong_22 : decode prog_13_method_34_code 22 = .ok (.iastore, 1) := by decide +kernel
theorem d_M_wrong_23 : decode prog_13_method_34_code 23 = .ok (.aload_n 0, 1) := by decide +kernel
theorem d_M_wrong_24 : decode prog_13_method_34_code 24 = .ok (.getfield 48, 3) := by decide +kernel
theorem d_M_wrong_27 : decode prog_13_method_34_code 27 = .ok (.bipush 33, 2) := by decide +kernel
theorem d_M_wrong_29 : decode prog_13_method_34_code 29 = .ok (.aload_n 0, 1) := by decide +kernel
theorem d_M_wrong_30 : decode prog_13_method_34_code 30 = .ok (.getfield 319, 3) := by decide +kernel
theorem d_M_wrong_33 : decode prog_13_method_34_code 33 = .ok (.iastore, 1) := by decide +kernel
theorem d_M_wrong_34 : decode prog_13_method_34_code 34 = .ok (.aload_n 0, 1) := by decide +kernel
theorem d_M_wrong_35 : decode prog_13_method_34_code 35 = .ok (.invokevirtual 324, 3) := by decide +kernel
theorem d_M_wrong_38 : decode prog_13_method_34_code 38 = .ok (.ireturn, 1) := by decide +kernel
def zf_M_wrong (F : Nat) (x1 : Int32) (σ : zs_S) : Option (Int32 × zs_S) :=
  zq_g (zq_cp 0 σ 64 0 0 34 34 34) <|
  zq_v (zs_cp σ 64 65 (0 : Int32).toNatClampNeg (0 : Int32).toNatClampNeg (34 : Int32).toNatClampNeg) fun σ2 =>
  zq_g (zq_b 32 34) <|
  zq_v (zs_wi σ2 65 ((32 : Int32).toNatClampNeg) x1) fun σ4 =>
  zq_g (zq_b 33 34) <|
  zq_v (zs_wi σ4 65 ((33 : Int32).toNatClampNeg) (zs_i σ4 1 29)) fun σ6 =>
  zq_c (zf_M_reach F σ6) fun r8 σ7 =>
  zq_g (zq_z r8) <|
  some (r8, σ7)
set_option maxHeartbeats 4000000 in
set_option maxRecDepth 100000 in
theorem zc_M_wrong {l : Launch} {D : va_G} {cA : Nat → ClassId} {ad : Nat → Nat} {A : Nat → Prop} {F : Nat} {x1 : Int32} {σ : zs_S} {q : Int32 × zs_S} (hJ : zs_J ad) (hf : zf_M_wrong F x1 σ = some q) : Met l y_M_wrong (.code y_M_wrong prog_13_method_34_code 2 (some .boolean) :: zd_ww) { frames := 2, cells := 0, slots := 0, locals := 81 } (va_Pc [.ref (ad 1), .int x1] (zs_U 1 D cA ad A σ)) (zs_Qi 1 D cA ad A q) 0 0 A := by
  refine Met.ofW (cc := prog_13_method_34_code) (maxL := 2) (ret := (some .boolean)) (by decide) rfl ?_
  intro p e s m args below meth c s₁ B hml hv
  obtain ⟨hargs, hP, hK, hD, hZ⟩ := hv
  have G : zs_G 1 p s m args c prog_13_method_34_code 2 "ScheduleCheckModel" D cA ad A := ⟨⟨B.exec, B.bytes, hml, findClass_of_methodNamed B.named, fun w h => atoms_spec B.pre w (List.mem_cons_of_mem _ h)⟩, hK, hJ, hZ⟩
  have hw : zs_I 1 D cA ad A s σ s.heap [] := ⟨hP, hD, va_S.rf⟩
  have hx := G.1.1
  have hb := G.1.2.1
  have hown := G.1.2.2.2.1
  have hts := G.1.2.2.2.2
  have hr := B.returns
  have hlocks := B.notSynchronized
  have he : entryFrame m args 2 = F0 m 0 ((lg_sl [.ref (ad 1), .int x1] ++ List.replicate (2 - (lg_sl [.ref (ad 1), .int x1]).length) Slot.unset).toArray) [] := by rw [hargs]; exact lg_entry_eq m _ 2
  have hl := lv_entry [.ref (ad 1), .int x1] (n := 2) (Nat.le_of_ble_eq_true rfl)
  rw [he]
  generalize (lg_sl [.ref (ad 1), .int x1] ++ List.replicate (2 - (lg_sl [.ref (ad 1), .int x1]).length) Slot.unset).toArray = ls at hl
  have hl : lv_has ls 2 [(0, .ref (ad 1)), (1, .int x1)] := hl
  obtain ⟨RR, hR⟩ : ∃ z, z = (headSpec (.code y_M_wrong prog_13_method_34_code 2 (some .boolean) :: zd_ww) { frames := 2, cells := 0, slots := 0, locals := 81 }).room := ⟨_, rfl⟩
  rw [← hR]
  obtain ⟨QQ, hQ⟩ : ∃ z, z = MQ below (zs_Qi 1 D cA ad A q) args s 0 0 A := ⟨_, rfl⟩
  rw [← hQ]
  have hR1 : 2 ≤ RR.frames := by rw [hR]; exact Nat.le_refl _
  have hR2 : 81 ≤ RR.locals := by rw [hR]; exact Nat.le_refl _
  generalize s.heap = H at hw ⊢
  generalize ([] : List Loc) = locs at hw ⊢
  unfold zf_M_wrong at hf
  refine lv_aload_n hx hb d_M_wrong_0 rfl (lv_at hl 0 rfl) ?_
  refine zr_get (ci := 8) G hw 1 25 zi_8 rfl rfl rfl (by decide) zm_621 (fun _ h => h) (v := .ref (ad 64)) rfl d_M_wrong_1 ?_
  refine lv_iconst (v := 0) hx hb d_M_wrong_4 (by decide) ?_
  refine lv_aload_n hx hb d_M_wrong_5 rfl (lv_at hl 0 rfl) ?_
  refine zr_get (ci := 8) G hw 1 26 zi_8 rfl rfl rfl (by decide) zm_628 (fun _ h => h) (v := .ref (ad 65)) rfl d_M_wrong_6 ?_
  refine lv_iconst (v := 0) hx hb d_M_wrong_9 (by decide) ?_
  refine lv_bipush (v := 34) hx hb d_M_wrong_10 (by decide) ?_
  obtain ⟨hk1, hf⟩ := zq_gs hf
  obtain ⟨σ2, e_σ2, hf⟩ := zq_ss hf
  refine zr_copy (rest := []) G hw 64 65 rfl rfl rfl rfl (by decide) hk1 hl.1 zm_634 zm_26 zm_27 zm_28 (Nat.le_trans (by decide) hR1) (Nat.le_trans (Nat.le_of_ble_eq_true rfl) hR2) d_M_wrong_12 (fun H locs hw => ?_)
  rw [← e_σ2] at hw
  refine lv_aload_n hx hb d_M_wrong_15 rfl (lv_at hl 0 rfl) ?_
  refine zr_get (ci := 8) G hw 1 26 zi_8 rfl rfl rfl (by decide) zm_628 (fun _ h => h) (v := .ref (ad 65)) rfl d_M_wrong_16 ?_
  refine lv_bipush (v := 32) hx hb d_M_wrong_19 (by decide) ?_
  refine lv_iload_n hx hb d_M_wrong_21 rfl (lv_at hl 1 rfl) ?_
  obtain ⟨hi3, hf⟩ := zq_gs hf
  obtain ⟨σ4, e_σ4, hf⟩ := zq_ss hf
  refine zr_iast G hw 65 rfl rfl hi3 d_M_wrong_22 (fun H locs hw => ?_)
  rw [← e_σ4] at hw
  refine lv_aload_n hx hb d_M_wrong_23 rfl (lv_at hl 0 rfl) ?_
  refine zr_get (ci := 8) G hw 1 26 zi_8 rfl rfl rfl (by decide) zm_628 (fun _ h => h) (v := .ref (ad 65)) rfl d_M_wrong_24 ?_
  refine lv_bipush (v := 33) hx hb d_M_wrong_27 (by decide) ?_
  refine lv_aload_n hx hb d_M_wrong_29 rfl (lv_at hl 0 rfl) ?_
  refine zr_get (ci := 8) G hw 1 29 zi_8 rfl rfl rfl (by decide) zm_638 (fun _ h => h) (v := .int (zs_i σ4 1 29)) rfl d_M_wrong_30 ?_
  obtain ⟨hi5, hf⟩ := zq_gs hf
  obtain ⟨σ6, e_σ6, hf⟩ := zq_ss hf
  refine zr_iast G hw 65 rfl rfl hi5 d_M_wrong_33 (fun H locs hw => ?_)
  rw [← e_σ6] at hw
  refine lv_aload_n hx hb d_M_wrong_34 rfl (lv_at hl 0 rfl) ?_
  obtain ⟨r8, σ7, hc9, hf⟩ := zq_cs hf
  refine zr_ci hw (zr_runV (rest := []) (ci := 8) (o := 1) G hw [] (zc_M_reach hJ hc9) (cwV 0 hts (zs_gV zm_643 zm_644 zm_645 zm_551 zm_642) rfl rfl rfl (by decide +kernel) ⟨Nat.le_trans (by decide) hR1, Nat.le_trans (by decide) hR2⟩) rfl rfl rfl hl.1 (Nat.le_of_ble_eq_true rfl) d_M_wrong_35 ⟨Nat.zero_le _, Nat.zero_le _⟩) (fun H locs hw => ?_)
  obtain ⟨hz, hf⟩ := zq_gs hf
  exact zr_zret G hw hr hlocks hz hf hQ d_M_wrong_38
/-! ScheduleCheckModel.waitsFor -/
def y_M_waitsFor : MethodName := ⟨"ScheduleCheckModel","waitsFor","(II)Z"⟩
theorem d_M_waitsFor_0 : decode prog_13_method_36_code 0 = .ok (.aload_n 0, 1) := by decide +kernel
theorem d_M_waitsFor_1 : decode prog_13_method_36_code 1 = .ok (.getfield 45, 3) := by decide +kernel
theorem d_M_waitsFor_4 : decode prog_13_method_36_code 4 = .ok (.iload_n 1, 1) := by decide +kernel
theorem d_M_waitsFor_5 : decode prog_13_method_36_code 5 = .ok (.invokestatic 296, 3) := by decide +kernel
theorem d_M_waitsFor_8 : decode prog_13_method_36_code 8 = .ok (.iconst 4, 1) := by decide +kernel
theorem d_M_waitsFor_9 : decode prog_13_method_36_code 9 = .ok (.iadd, 1) := by decide +kernel
theorem d_M_waitsFor_10 : decode prog_13_method_36_code 10 = .ok (.iaload, 1) := by decide +kernel
theorem d_M_waitsFor_11 : decode prog_13_method_36_code 11 = .ok (.iconst 1, 1) := by decide +kernel
theorem d_M_waitsFor_12 : decode prog_13_method_36_code 12 = .ok (.if_icmp .ne 30, 3) := by decide +kernel
theorem d_M_waitsFor_15 : decode prog_13_method_36_code 15 = .ok (.aload_n 0, 1) := by decide +kernel
theorem d_M_waitsFor_16 : decode prog_13_method_36_code 16 = .ok (.getfield 16, 3) := by decide +kernel
theorem d_M_waitsFor_19 : decode prog_13_method_36_code 19 = .ok (.getfield 244, 3) := by decide +kernel
theorem d_M_waitsFor_22 : decode prog_13_method_36_code 22 = .ok (.aload_n 0, 1) := by decide +kernel
theorem d_M_waitsFor_23 : decode prog_13_method_36_code 23 = .ok (.getfield 45, 3) := by decide +kernel
theorem d_M_waitsFor_26 : decode prog_13_method_36_code 26 = .ok (.iload_n 1, 1) := by decide +kernel
theorem d_M_waitsFor_27 : decode prog_13_method_36_code 27 = .ok (.invokestatic 296, 3) := by decide +kernel
theorem d_M_waitsFor_30 : decode prog_13_method_36_code 30 = .ok (.iconst 3, 1) := by decide +kernel
theorem d_M_waitsFor_31 : decode prog_13_method_36_code 31 = .ok (.iadd, 1) := by decide +kernel
theorem d_M_waitsFor_32 : decode prog_13_method_36_code 32 = .ok (.iaload, 1) := by decide +kernel
theorem d_M_waitsFor_33 : decode prog_13_method_36_code 33 = .ok (.iaload, 1) := by decide +kernel
theorem d_M_waitsFor_34 : decode prog_13_method_36_code 34 = .ok (.iload_n 2, 1) := by decide +kernel
theorem d_M_waitsFor_35 : decode prog_13_method_36_code 35 = .ok (.if_icmp .ne 7, 3) := by decide +kernel
theorem d_M_waitsFor_38 : decode prog_13_method_36_code 38 = .ok (.iconst 1, 1) := by decide +kernel
theorem d_M_waitsFor_39 : decode prog_13_method_36_code 39 = .ok (.goto 4, 3) := by decide +kernel
theorem d_M_waitsFor_42 : decode prog_13_method_36_code 42 = .ok (.iconst 0, 1) := by decide +kernel
theorem d_M_waitsFor_43 : decode prog_13_method_36_code 43 = .ok (.ireturn, 1) := by decide +kernel
def zf_M_waitsFor_43 (F : Nat)  (t0 : Int32) (σ : zs_S) : Option (Int32 × zs_S) :=
  zq_g (zq_z t0) <|
  some (t0, σ)
def zf_M_waitsFor_42 (F : Nat)   (σ : zs_S) : Option (Int32 × zs_S) :=
  zf_M_waitsFor_43 F 0 σ
def zf_M_waitsFor (F : Nat) (x1 : Int32) (x2 : Int32) (σ : zs_S) : Option (Int32 × zs_S) :=
  zq_c (zf_M_each F x1 σ) fun r2 σ1 =>
  zq_g (zq_b (r2 + 4) 34) <|
  if (zs_i σ1 64 (r2 + 4).toNatClampNeg) = 1 then (
    zq_q (zs_r σ1 1 2) fun q5 =>
    zq_g (zq_k 1 q5 19) <|
    zq_q (zd_rf 1 q5 8) fun q7 =>
    zq_c (zf_M_each F x1 σ1) fun r9 σ8 =>
    zq_g (zq_b (r9 + 3) 34) <|
    zq_g (zq_k 1 q7 0) <|
    zq_g (zq_b (zs_i σ8 64 (r9 + 3).toNatClampNeg) (zd_sh 1 q7).2) <|
    if (zs_i σ8 q7 (zs_i σ8 64 (r9 + 3).toNatClampNeg).toNatClampNeg) = x2 then (
      zf_M_waitsFor_43 F 1 σ8
    ) else (
      zf_M_waitsFor_42 F σ8
    )
  ) else (
    zf_M_waitsFor_42 F σ1
  )
set_option maxHeartbeats 4000000 in
set_option maxRecDepth 100000 in
theorem zc_M_waitsFor {l : Launch} {D : va_G} {cA : Nat → ClassId} {ad : Nat → Nat} {A : Nat → Prop} {F : Nat} {x1 : Int32} {x2 : Int32} {σ : zs_S} {q : Int32 × zs_S} (hJ : zs_J ad) (hf : zf_M_waitsFor F x1 x2 σ = some q) : Met l y_M_waitsFor (.code y_M_waitsFor prog_13_method_36_code 3 (some .boolean) :: zd_ww) { frames := 1, cells := 0, slots := 0, locals := 20 } (va_Pc [.ref (ad 1), .int x1, .int x2] (zs_U 1 D cA ad A σ)) (zs_Qi 1 D cA ad A q) 0 0 A := by
  refine Met.ofW (cc := prog_13_method_36_code) (maxL := 3) (ret := (some .boolean)) (by decide) rfl ?_
  intro p e s m args below meth c s₁ B hml hv
  obtain ⟨hargs, hP, hK, hD, hZ⟩ := hv
  have G : zs_G 1 p s m args c prog_13_method_36_code 3 "ScheduleCheckModel" D cA ad A := ⟨⟨B.exec, B.bytes, hml, findClass_of_methodNamed B.named, fun w h => atoms_spec B.pre w (List.mem_cons_of_mem _ h)⟩, hK, hJ, hZ⟩
  have hw : zs_I 1 D cA ad A s σ s.heap [] := ⟨hP, hD, va_S.rf⟩
  have hx := G.1.1
  have hb := G.1.2.1
  have hown := G.1.2.2.2.1
  have hts := G.1.2.2.2.2
  have hr := B.returns
  have hlocks := B.notSynchronized
  have he : entryFrame m args 3 = F0 m 0 ((lg_sl [.ref (ad 1), .int x1, .int x2] ++ List.replicate (3 - (lg_sl [.ref (ad 1), .int x1, .int x2]).length) Slot.unset).toArray) [] := by rw [hargs]; exact lg_entry_eq m _ 3
  have hl := lv_entry [.ref (ad 1), .int x1, .int x2] (n := 3) (Nat.le_of_ble_eq_true rfl)
  rw [he]
  generalize (lg_sl [.ref (ad 1), .int x1, .int x2] ++ List.replicate (3 - (lg_sl [.ref (ad 1), .int x1, .int x2]).length) Slot.unset).toArray = ls at hl
  have hl : lv_has ls 3 [(0, .ref (ad 1)), (1, .int x1), (2, .int x2)] := hl
  obtain ⟨RR, hR⟩ : ∃ z, z = (headSpec (.code y_M_waitsFor prog_13_method_36_code 3 (some .boolean) :: zd_ww) { frames := 1, cells := 0, slots := 0, locals := 20 }).room := ⟨_, rfl⟩
  rw [← hR]
  obtain ⟨QQ, hQ⟩ : ∃ z, z = MQ below (zs_Qi 1 D cA ad A q) args s 0 0 A := ⟨_, rfl⟩
  rw [← hQ]
  have hR1 : 1 ≤ RR.frames := by rw [hR]; exact Nat.le_refl _
  have hR2 : 20 ≤ RR.locals := by rw [hR]; exact Nat.le_refl _
  generalize s.heap = H at hw ⊢
  generalize ([] : List Loc) = locs at hw ⊢
  have K43 : ∀ (t0 : Int32) (σ : zs_S) (H : Heap) (locs : List Loc) (ls : Array Slot), zf_M_waitsFor_43 F t0 σ = some q → zs_I 1 D cA ad A s σ H locs → lv_has ls 3 [] → W p l e RR s m args below meth c H locs 0 0 QQ (F0 m 43 ls [.int t0]) := by
    intro  t0 σ H locs ls hf hw hl
    unfold zf_M_waitsFor_43 at hf
    obtain ⟨hz, hf⟩ := zq_gs hf
    exact zr_zret G hw hr hlocks hz hf hQ d_M_waitsFor_43
  have K42 : ∀ (σ : zs_S) (H : Heap) (locs : List Loc) (ls : Array Slot), zf_M_waitsFor_42 F σ = some q → zs_I 1 D cA ad A s σ H locs → lv_has ls 3 [] → W p l e RR s m args below meth c H locs 0 0 QQ (F0 m 42 ls []) := by
    intro   σ H locs ls hf hw hl
    unfold zf_M_waitsFor_42 at hf
    refine lv_iconst (v := 0) hx hb d_M_waitsFor_42 (by decide) ?_
    exact K43 0 σ H locs ls hf hw (lv_sub hl [] rfl)
  unfold zf_M_waitsFor at hf
  refine lv_aload_n hx hb d_M_waitsFor_0 rfl (lv_at hl 0 rfl) ?_
  refine zr_get (ci := 8) G hw 1 25 zi_8 rfl rfl rfl (by decide) zm_621 (fun _ h => h) (v := .ref (ad 64)) rfl d_M_waitsFor_1 ?_
  refine lv_iload_n hx hb d_M_waitsFor_4 rfl (lv_at hl 1 rfl) ?_
  obtain ⟨r2, σ1, hc3, hf⟩ := zq_cs hf
  refine zr_ci hw (zr_runS (rest := [.ref (ad 64)]) G hw [.int x1] (zc_M_each hJ hc3) (va_cwS 1 hts (zs_gS zm_623 zm_624 zm_551 zm_622) rfl rfl rfl (by decide +kernel) ⟨Nat.le_trans (by decide) hR1, Nat.le_trans (by decide) hR2⟩) rfl hl.1 (Nat.le_of_ble_eq_true rfl) d_M_waitsFor_5 ⟨Nat.zero_le _, Nat.zero_le _⟩) (fun H locs hw => ?_)
  refine lv_iconst (v := 4) hx hb d_M_waitsFor_8 (by decide) ?_
  refine lv_iadd hx hb d_M_waitsFor_9 ?_
  obtain ⟨hi4, hf⟩ := zq_gs hf
  refine zr_iald G hw 64 rfl rfl hi4 d_M_waitsFor_10 ?_
  refine lv_iconst (v := 1) hx hb d_M_waitsFor_11 (by decide) ?_
  refine lv_icmp_ne hx hb d_M_waitsFor_12 (tgt := 42) rfl (fun hc => ?_) (fun hc => ?_)
  · have hf := (if_neg hc).symm.trans hf
    exact K42 σ1 H locs ls hf hw (lv_sub hl [] rfl)
  · have hf := (if_pos hc).symm.trans hf
    refine lv_aload_n hx hb d_M_waitsFor_15 rfl (lv_at hl 0 rfl) ?_
    obtain ⟨q5, e_q5, h_q5, hf⟩ := zq_qs hf
    refine zr_get (ci := 8) G hw 1 2 zi_8 rfl rfl rfl (by decide) zm_616 (fun _ h => h) (v := .ref (ad q5)) (zs_fr rfl e_q5 h_q5) d_M_waitsFor_16 ?_
    obtain ⟨hs6, hf⟩ := zq_gs hf
    have hs6 := zq_ks hs6
    obtain ⟨q7, e_q7, h_q7, hf⟩ := zq_qs hf
    refine zr_get (ci := 9) G hw q5 8 zi_9 hs6 rfl rfl (by decide) zm_626 (fun _ h => h) (v := .ref (ad q7)) (zs_fs rfl e_q7 h_q7) d_M_waitsFor_19 ?_
    refine lv_aload_n hx hb d_M_waitsFor_22 rfl (lv_at hl 0 rfl) ?_
    refine zr_get (ci := 8) G hw 1 25 zi_8 rfl rfl rfl (by decide) zm_621 (fun _ h => h) (v := .ref (ad 64)) rfl d_M_waitsFor_23 ?_
    refine lv_iload_n hx hb d_M_waitsFor_26 rfl (lv_at hl 1 rfl) ?_
    obtain ⟨r9, σ8, hc10, hf⟩ := zq_cs hf
    refine zr_ci hw (zr_runS (rest := [.ref (ad 64), .ref (ad q7)]) G hw [.int x1] (zc_M_each hJ hc10) (va_cwS 1 hts (zs_gS zm_623 zm_624 zm_551 zm_622) rfl rfl rfl (by decide +kernel) ⟨Nat.le_trans (by decide) hR1, Nat.le_trans (by decide) hR2⟩) rfl hl.1 (Nat.le_of_ble_eq_true rfl) d_M_waitsFor_27 ⟨Nat.zero_le _, Nat.zero_le _⟩) (fun H locs hw => ?_)
    refine lv_iconst (v := 3) hx hb d_M_waitsFor_30 (by decide) ?_
    refine lv_iadd hx hb d_M_waitsFor_31 ?_
    obtain ⟨hi11, hf⟩ := zq_gs hf
    refine zr_iald G hw 64 rfl rfl hi11 d_M_waitsFor_32 ?_
    obtain ⟨hs12, hf⟩ := zq_gs hf
    have hs12 := zq_ks hs12
    obtain ⟨hi13, hf⟩ := zq_gs hf
    refine zr_iald G hw q7 hs12 rfl hi13 d_M_waitsFor_33 ?_
    refine lv_iload_n hx hb d_M_waitsFor_34 rfl (lv_at hl 2 rfl) ?_
    refine lv_icmp_ne hx hb d_M_waitsFor_35 (tgt := 42) rfl (fun hc => ?_) (fun hc => ?_)
    · have hf := (if_neg hc).symm.trans hf
      exact K42 σ8 H locs ls hf hw (lv_sub hl [] rfl)
    · have hf := (if_pos hc).symm.trans hf
      refine lv_iconst (v := 1) hx hb d_M_waitsFor_38 (by decide) ?_
      refine lv_goto hx hb d_M_waitsFor_39 (tgt := 43) rfl ?_
      exact K43 1 σ8 H locs ls hf hw (lv_sub hl [] rfl)
/-! ScheduleCheckModel.wake -/
def y_M_wake : MethodName := ⟨"ScheduleCheckModel","wake","(II)Z"⟩
theorem d_M_wake_0 : decode prog_13_method_37_code 0 = .ok (.iconst 0, 1) := by decide +kernel
theorem d_M_wake_1 : decode prog_13_method_37_code 1 = .ok (.istore_n 3, 1) := by decide +kernel
theorem d_M_wake_2 : decode prog_13_method_37_code 2 = .ok (.iconst 0, 1) := by decide +kernel
theorem d_M_wake_3 : decode prog_13_method_37_code 3 = .ok (.istore 4, 2) := by decide +kernel
theorem d_M_wake_5 : decode prog_13_method_37_code 5 = .ok (.iload 4, 2) := by decide +kernel
theorem d_M_wake_7 : decode prog_13_method_37_code 7 = .ok (.aload_n 0, 1) := by decide +kernel
theorem d_M_wake_8 : decode prog_13_method_37_code 8 = .ok (.getfield 16, 3) := by decide +kernel
theorem d_M_wake_11 : decode prog_13_method_37_code 11 = .ok (.getfield 164, 3) := by decide +kernel
theorem d_M_wake_14 : decode prog_13_method_37_code 14 = .ok (.if_icmp .ge 67, 3) := by decide +kernel
theorem d_M_wake_17 : decode prog_13_method_37_code 17 = .ok (.aload_n 0, 1) := by decide +kernel
theorem d_M_wake_18 : decode prog_13_method_37_code 18 = .ok (.iload 4, 2) := by decide +kernel
theorem d_M_wake_20 : decode prog_13_method_37_code 20 = .ok (.iload_n 2, 1) := by decide +kernel
theorem d_M_wake_21 : decode prog_13_method_37_code 21 = .ok (.invokevirtual 338, 3) := by decide +kernel
theorem d_M_wake_24 : decode prog_13_method_37_code 24 = .ok (.ifCond .ne 6, 3) := by decide +kernel
theorem d_M_wake_27 : decode prog_13_method_37_code 27 = .ok (.goto 48, 3) := by decide +kernel
theorem d_M_wake_30 : decode prog_13_method_37_code 30 = .ok (.iconst 1, 1) := by decide +kernel
theorem d_M_wake_31 : decode prog_13_method_37_code 31 = .ok (.istore_n 3, 1) := by decide +kernel
theorem d_M_wake_32 : decode prog_13_method_37_code 32 = .ok (.aload_n 0, 1) := by decide +kernel
theorem d_M_wake_33 : decode prog_13_method_37_code 33 = .ok (.getfield 45, 3) := by decide +kernel
theorem d_M_wake_36 : decode prog_13_method_37_code 36 = .ok (.iconst 0, 1) := by decide +kernel
theorem d_M_wake_37 : decode prog_13_method_37_code 37 = .ok (.aload_n 0, 1) := by decide +kernel
theorem d_M_wake_38 : decode prog_13_method_37_code 38 = .ok (.getfield 48, 3) := by decide +kernel
theorem d_M_wake_41 : decode prog_13_method_37_code 41 = .ok (.iconst 0, 1) := by decide +kernel
theorem d_M_wake_42 : decode prog_13_method_37_code 42 = .ok (.bipush 34, 2) := by decide +kernel
theorem d_M_wake_44 : decode prog_13_method_37_code 44 = .ok (.invokestatic 310, 3) := by decide +kernel
theorem d_M_wake_47 : decode prog_13_method_37_code 47 = .ok (.aload_n 0, 1) := by decide +kernel
theorem d_M_wake_48 : decode prog_13_method_37_code 48 = .ok (.getfield 48, 3) := by decide +kernel
theorem d_M_wake_51 : decode prog_13_method_37_code 51 = .ok (.iload 4, 2) := by decide +kernel
theorem d_M_wake_53 : decode prog_13_method_37_code 53 = .ok (.invokestatic 296, 3) := by decide +kernel
theorem d_M_wake_56 : decode prog_13_method_37_code 56 = .ok (.iconst 4, 1) := by decide +kernel
theorem d_M_wake_57 : decode prog_13_method_37_code 57 = .ok (.iadd, 1) := by decide +kernel
theorem d_M_wake_58 : decode prog_13_method_37_code 58 = .ok (.iconst 2, 1) := by decide +kernel
theorem d_M_wake_59 : decode prog_13_method_37_code 59 = .ok (.iastore, 1) := by decide +kernel
theorem d_M_wake_60 : decode prog_13_method_37_code 60 = .ok (.aload_n 0, 1) := by decide +kernel
theorem d_M_wake_61 : decode prog_13_method_37_code 61 = .ok (.iload_n 1, 1) := by decide +kernel
theorem d_M_wake_62 : decode prog_13_method_37_code 62 = .ok (.iconst 0, 1) := by decide +kernel
theorem d_M_wake_63 : decode prog_13_method_37_code 63 = .ok (.invokevirtual 327, 3) := by decide +kernel
theorem d_M_wake_66 : decode prog_13_method_37_code 66 = .ok (.aload_n 0, 1) := by decide +kernel
theorem d_M_wake_67 : decode prog_13_method_37_code 67 = .ok (.invokevirtual 324, 3) := by decide +kernel
theorem d_M_wake_70 : decode prog_13_method_37_code 70 = .ok (.ifCond .ne 5, 3) := by decide +kernel
theorem d_M_wake_73 : decode prog_13_method_37_code 73 = .ok (.iconst 0, 1) := by decide +kernel
theorem d_M_wake_74 : decode prog_13_method_37_code 74 = .ok (.ireturn, 1) := by decide +kernel
theorem d_M_wake_75 : decode prog_13_method_37_code 75 = .ok (.iinc 4 1, 3) := by decide +kernel
theorem d_M_wake_78 : decode prog_13_method_37_code 78 = .ok (.goto (-73), 3) := by decide +kernel
theorem d_M_wake_81 : decode prog_13_method_37_code 81 = .ok (.iload_n 3, 1) := by decide +kernel
theorem d_M_wake_82 : decode prog_13_method_37_code 82 = .ok (.ifCond .eq 5, 3) := by decide +kernel
theorem d_M_wake_85 : decode prog_13_method_37_code 85 = .ok (.iconst 1, 1) := by decide +kernel
theorem d_M_wake_86 : decode prog_13_method_37_code 86 = .ok (.ireturn, 1) := by decide +kernel
theorem d_M_wake_87 : decode prog_13_method_37_code 87 = .ok (.aload_n 0, 1) := by decide +kernel
theorem d_M_wake_88 : decode prog_13_method_37_code 88 = .ok (.iload_n 1, 1) := by decide +kernel
theorem d_M_wake_89 : decode prog_13_method_37_code 89 = .ok (.iconst 0, 1) := by decide +kernel
theorem d_M_wake_90 : decode prog_13_method_37_code 90 = .ok (.invokevirtual 327, 3) := by decide +kernel
theorem d_M_wake_93 : decode prog_13_method_37_code 93 = .ok (.aload_n 0, 1) := by decide +kernel
theorem d_M_wake_94 : decode prog_13_method_37_code 94 = .ok (.invokevirtual 324, 3) := by decide +kernel
theorem d_M_wake_97 : decode prog_13_method_37_code 97 = .ok (.ireturn, 1) := by decide +kernel
def zf_M_wake_75 (F : Nat) (k5 : Int32 → Int32 → Int32 → Int32 → zs_S → Option (Int32 × zs_S)) (x1 : Int32) (x2 : Int32) (x3 : Int32) (x4 : Int32) (σ : zs_S) : Option (Int32 × zs_S) :=
  zq_v (x4 + 1) fun v25 =>
  k5 x1 x2 x3 v25 σ
def zf_M_wake_5 (F : Nat)  : Nat → Int32 → Int32 → Int32 → Int32 → zs_S → Option (Int32 × zs_S)
  | 0, _, _, _, _, _ => none
  | n + 1, x1, x2, x3, x4, σ =>
    zq_q (zs_r σ 1 2) fun q1 =>
    zq_g (zq_k 1 q1 19) <|
    if (zs_i σ q1 5) ≤ x4 then (
      if x3 = 0 then (
        zq_d (zf_M_goOn F x1 0 σ) fun σ3 =>
        zq_c (zf_M_reach F σ3) fun r7 σ6 =>
        zq_g (zq_z r7) <|
        some (r7, σ6)
      ) else (
        some (1, σ)
      )
    ) else (
      zq_c (zf_M_waitsFor F x4 x2 σ) fun r10 σ9 =>
      if r10 = 0 then (
        zf_M_wake_75 F (zf_M_wake_5 F n) x1 x2 x3 x4 σ9
      ) else (
        zq_g (zq_cp 0 σ9 64 0 0 34 34 34) <|
        zq_v (zs_cp σ9 64 65 (0 : Int32).toNatClampNeg (0 : Int32).toNatClampNeg (34 : Int32).toNatClampNeg) fun σ13 =>
        zq_c (zf_M_each F x4 σ13) fun r15 σ14 =>
        zq_g (zq_b (r15 + 4) 34) <|
        zq_v (zs_wi σ14 65 ((r15 + 4).toNatClampNeg) 2) fun σ18 =>
        zq_d (zf_M_goOn F x1 0 σ18) fun σ19 =>
        zq_c (zf_M_reach F σ19) fun r23 σ22 =>
        if r23 = 0 then (
          some (0, σ22)
        ) else (
          zf_M_wake_75 F (zf_M_wake_5 F n) x1 x2 1 x4 σ22
        )
      )
    )
def zf_M_wake (F : Nat) (x1 : Int32) (x2 : Int32) (σ : zs_S) : Option (Int32 × zs_S) :=
  zf_M_wake_5 F F x1 x2 0 0 σ
set_option maxHeartbeats 4000000 in
set_option maxRecDepth 100000 in
theorem zc_M_wake {l : Launch} {D : va_G} {cA : Nat → ClassId} {ad : Nat → Nat} {A : Nat → Prop} {F : Nat} {x1 : Int32} {x2 : Int32} {σ : zs_S} {q : Int32 × zs_S} (hJ : zs_J ad) (hf : zf_M_wake F x1 x2 σ = some q) : Met l y_M_wake (.code y_M_wake prog_13_method_37_code 5 (some .boolean) :: zd_ww) { frames := 2, cells := 0, slots := 0, locals := 81 } (va_Pc [.ref (ad 1), .int x1, .int x2] (zs_U 1 D cA ad A σ)) (zs_Qi 1 D cA ad A q) 0 0 A := by
  refine Met.ofW (cc := prog_13_method_37_code) (maxL := 5) (ret := (some .boolean)) (by decide) rfl ?_
  intro p e s m args below meth c s₁ B hml hv
  obtain ⟨hargs, hP, hK, hD, hZ⟩ := hv
  have G : zs_G 1 p s m args c prog_13_method_37_code 5 "ScheduleCheckModel" D cA ad A := ⟨⟨B.exec, B.bytes, hml, findClass_of_methodNamed B.named, fun w h => atoms_spec B.pre w (List.mem_cons_of_mem _ h)⟩, hK, hJ, hZ⟩
  have hw : zs_I 1 D cA ad A s σ s.heap [] := ⟨hP, hD, va_S.rf⟩
  have hx := G.1.1
  have hb := G.1.2.1
  have hown := G.1.2.2.2.1
  have hts := G.1.2.2.2.2
  have hr := B.returns
  have hlocks := B.notSynchronized
  have he : entryFrame m args 5 = F0 m 0 ((lg_sl [.ref (ad 1), .int x1, .int x2] ++ List.replicate (5 - (lg_sl [.ref (ad 1), .int x1, .int x2]).length) Slot.unset).toArray) [] := by rw [hargs]; exact lg_entry_eq m _ 5
  have hl := lv_entry [.ref (ad 1), .int x1, .int x2] (n := 5) (Nat.le_of_ble_eq_true rfl)
  rw [he]
  generalize (lg_sl [.ref (ad 1), .int x1, .int x2] ++ List.replicate (5 - (lg_sl [.ref (ad 1), .int x1, .int x2]).length) Slot.unset).toArray = ls at hl
  have hl : lv_has ls 5 [(0, .ref (ad 1)), (1, .int x1), (2, .int x2)] := hl
  obtain ⟨RR, hR⟩ : ∃ z, z = (headSpec (.code y_M_wake prog_13_method_37_code 5 (some .boolean) :: zd_ww) { frames := 2, cells := 0, slots := 0, locals := 81 }).room := ⟨_, rfl⟩
  rw [← hR]
  obtain ⟨QQ, hQ⟩ : ∃ z, z = MQ below (zs_Qi 1 D cA ad A q) args s 0 0 A := ⟨_, rfl⟩
  rw [← hQ]
  have hR1 : 2 ≤ RR.frames := by rw [hR]; exact Nat.le_refl _
  have hR2 : 81 ≤ RR.locals := by rw [hR]; exact Nat.le_refl _
  generalize s.heap = H at hw ⊢
  generalize ([] : List Loc) = locs at hw ⊢
  have K75 : ∀ (k5 : Int32 → Int32 → Int32 → Int32 → zs_S → Option (Int32 × zs_S)) (hk5 : ∀ (x1 : Int32) (x2 : Int32) (x3 : Int32) (x4 : Int32) (σ : zs_S) (H : Heap) (locs : List Loc) (ls : Array Slot), k5 x1 x2 x3 x4 σ = some q → zs_I 1 D cA ad A s σ H locs → lv_has ls 5 [(0, .ref (ad 1)), (1, .int x1), (2, .int x2), (3, .int x3), (4, .int x4)] → W p l e RR s m args below meth c H locs 0 0 QQ (F0 m 5 ls [])) (x1 : Int32) (x2 : Int32) (x3 : Int32) (x4 : Int32) (σ : zs_S) (H : Heap) (locs : List Loc) (ls : Array Slot), zf_M_wake_75 F k5 x1 x2 x3 x4 σ = some q → zs_I 1 D cA ad A s σ H locs → lv_has ls 5 [(0, .ref (ad 1)), (1, .int x1), (2, .int x2), (3, .int x3), (4, .int x4)] → W p l e RR s m args below meth c H locs 0 0 QQ (F0 m 75 ls []) := by
    intro k5 hk5 x1 x2 x3 x4 σ H locs ls hf hw hl
    unfold zf_M_wake_75 at hf
    obtain ⟨v25, e_v25, hf⟩ := zq_ss hf
    refine lv_iinc (v := v25) hx hb d_M_wake_75 hl (k := 4) rfl (zq_inc (k := 1) (by decide) e_v25) (by decide) rfl (fun ls hl => ?_)
    have hl : lv_has ls 5 [(4, .int v25), (0, .ref (ad 1)), (1, .int x1), (2, .int x2), (3, .int x3)] := hl
    refine lv_goto hx hb d_M_wake_78 (tgt := 5) rfl ?_
    exact hk5 x1 x2 x3 v25 σ H locs ls hf hw (lv_sub hl [1, 2, 3, 4, 0] rfl)
  have K5 : ∀ (n : Nat) (x1 : Int32) (x2 : Int32) (x3 : Int32) (x4 : Int32) (σ : zs_S) (H : Heap) (locs : List Loc) (ls : Array Slot), zf_M_wake_5 F n x1 x2 x3 x4 σ = some q → zs_I 1 D cA ad A s σ H locs → lv_has ls 5 [(0, .ref (ad 1)), (1, .int x1), (2, .int x2), (3, .int x3), (4, .int x4)] → W p l e RR s m args below meth c H locs 0 0 QQ (F0 m 5 ls []) := by
    intro  n
    induction n with
    | zero => intro x1 x2 x3 x4 σ H locs ls hf hw hl; exact nomatch (show (none : Option (Int32 × zs_S)) = some q from hf)
    | succ n ih =>
      intro x1 x2 x3 x4 σ H locs ls hf hw hl
      rw [zf_M_wake_5] at hf
      refine lv_iload hx hb d_M_wake_5 (lv_at hl 4 rfl) ?_
      refine lv_aload_n hx hb d_M_wake_7 rfl (lv_at hl 0 rfl) ?_
      obtain ⟨q1, e_q1, h_q1, hf⟩ := zq_qs hf
      refine zr_get (ci := 8) G hw 1 2 zi_8 rfl rfl rfl (by decide) zm_616 (fun _ h => h) (v := .ref (ad q1)) (zs_fr rfl e_q1 h_q1) d_M_wake_8 ?_
      obtain ⟨hs2, hf⟩ := zq_gs hf
      have hs2 := zq_ks hs2
      refine zr_get (ci := 9) G hw q1 5 zi_9 hs2 rfl rfl (by decide) zm_646 (fun _ h => h) (v := .int (zs_i σ q1 5)) rfl d_M_wake_11 ?_
      refine lv_icmp_ge hx hb d_M_wake_14 (tgt := 81) rfl (fun hc => ?_) (fun hc => ?_)
      · have hf := (if_pos hc).symm.trans hf
        refine lv_iload_n hx hb d_M_wake_81 rfl (lv_at hl 3 rfl) ?_
        refine lv_if_eq hx hb d_M_wake_82 (tgt := 87) rfl (fun hc => ?_) (fun hc => ?_)
        · have hf := (if_pos hc).symm.trans hf
          refine lv_aload_n hx hb d_M_wake_87 rfl (lv_at hl 0 rfl) ?_
          refine lv_iload_n hx hb d_M_wake_88 rfl (lv_at hl 1 rfl) ?_
          refine lv_iconst (v := 0) hx hb d_M_wake_89 (by decide) ?_
          obtain ⟨σ3, hc5, hf⟩ := zq_ds hf
          refine zr_cv hw (zr_runV (rest := []) (ci := 8) (o := 1) G hw [.int x1, .int 0] (zc_M_goOn hJ hc5) (cwV 2 hts (zs_gV zm_648 zm_649 zm_650 zm_551 zm_647) rfl rfl rfl (by decide +kernel) ⟨Nat.le_trans (by decide) hR1, Nat.le_trans (by decide) hR2⟩) rfl rfl rfl hl.1 (Nat.le_of_ble_eq_true rfl) d_M_wake_90 ⟨Nat.zero_le _, Nat.zero_le _⟩) (fun H locs hw => ?_)
          refine lv_aload_n hx hb d_M_wake_93 rfl (lv_at hl 0 rfl) ?_
          obtain ⟨r7, σ6, hc8, hf⟩ := zq_cs hf
          refine zr_ci hw (zr_runV (rest := []) (ci := 8) (o := 1) G hw [] (zc_M_reach hJ hc8) (cwV 0 hts (zs_gV zm_643 zm_644 zm_645 zm_551 zm_642) rfl rfl rfl (by decide +kernel) ⟨Nat.le_trans (by decide) hR1, Nat.le_trans (by decide) hR2⟩) rfl rfl rfl hl.1 (Nat.le_of_ble_eq_true rfl) d_M_wake_94 ⟨Nat.zero_le _, Nat.zero_le _⟩) (fun H locs hw => ?_)
          obtain ⟨hz, hf⟩ := zq_gs hf
          exact zr_zret G hw hr hlocks hz hf hQ d_M_wake_97
        · have hf := (if_neg hc).symm.trans hf
          refine lv_iconst (v := 1) hx hb d_M_wake_85 (by decide) ?_
          exact zr_zret G hw hr hlocks (by decide) hf hQ d_M_wake_86
      · have hf := (if_neg hc).symm.trans hf
        refine lv_aload_n hx hb d_M_wake_17 rfl (lv_at hl 0 rfl) ?_
        refine lv_iload hx hb d_M_wake_18 (lv_at hl 4 rfl) ?_
        refine lv_iload_n hx hb d_M_wake_20 rfl (lv_at hl 2 rfl) ?_
        obtain ⟨r10, σ9, hc11, hf⟩ := zq_cs hf
        refine zr_ci hw (zr_runV (rest := []) (ci := 8) (o := 1) G hw [.int x4, .int x2] (zc_M_waitsFor hJ hc11) (cwV 2 hts (zs_gV zm_652 zm_653 zm_654 zm_551 zm_651) rfl rfl rfl (by decide +kernel) ⟨Nat.le_trans (by decide) hR1, Nat.le_trans (by decide) hR2⟩) rfl rfl rfl hl.1 (Nat.le_of_ble_eq_true rfl) d_M_wake_21 ⟨Nat.zero_le _, Nat.zero_le _⟩) (fun H locs hw => ?_)
        refine lv_if_ne hx hb d_M_wake_24 (tgt := 30) rfl (fun hc => ?_) (fun hc => ?_)
        · have hf := (if_neg hc).symm.trans hf
          refine lv_iconst (v := 1) hx hb d_M_wake_30 (by decide) ?_
          refine lv_istore_n hx hb d_M_wake_31 rfl hl (by decide) rfl (fun ls hl => ?_)
          have hl : lv_has ls 5 [(3, .int 1), (0, .ref (ad 1)), (1, .int x1), (2, .int x2), (4, .int x4)] := hl
          refine lv_aload_n hx hb d_M_wake_32 rfl (lv_at hl 1 rfl) ?_
          refine zr_get (ci := 8) G hw 1 25 zi_8 rfl rfl rfl (by decide) zm_621 (fun _ h => h) (v := .ref (ad 64)) rfl d_M_wake_33 ?_
          refine lv_iconst (v := 0) hx hb d_M_wake_36 (by decide) ?_
          refine lv_aload_n hx hb d_M_wake_37 rfl (lv_at hl 1 rfl) ?_
          refine zr_get (ci := 8) G hw 1 26 zi_8 rfl rfl rfl (by decide) zm_628 (fun _ h => h) (v := .ref (ad 65)) rfl d_M_wake_38 ?_
          refine lv_iconst (v := 0) hx hb d_M_wake_41 (by decide) ?_
          refine lv_bipush (v := 34) hx hb d_M_wake_42 (by decide) ?_
          obtain ⟨hk12, hf⟩ := zq_gs hf
          obtain ⟨σ13, e_σ13, hf⟩ := zq_ss hf
          refine zr_copy (rest := []) G hw 64 65 rfl rfl rfl rfl (by decide) hk12 hl.1 zm_634 zm_26 zm_27 zm_28 (Nat.le_trans (by decide) hR1) (Nat.le_trans (Nat.le_of_ble_eq_true rfl) hR2) d_M_wake_44 (fun H locs hw => ?_)
          rw [← e_σ13] at hw
          refine lv_aload_n hx hb d_M_wake_47 rfl (lv_at hl 1 rfl) ?_
          refine zr_get (ci := 8) G hw 1 26 zi_8 rfl rfl rfl (by decide) zm_628 (fun _ h => h) (v := .ref (ad 65)) rfl d_M_wake_48 ?_
          refine lv_iload hx hb d_M_wake_51 (lv_at hl 4 rfl) ?_
          obtain ⟨r15, σ14, hc16, hf⟩ := zq_cs hf
          refine zr_ci hw (zr_runS (rest := [.ref (ad 65)]) G hw [.int x4] (zc_M_each hJ hc16) (va_cwS 1 hts (zs_gS zm_623 zm_624 zm_551 zm_622) rfl rfl rfl (by decide +kernel) ⟨Nat.le_trans (by decide) hR1, Nat.le_trans (by decide) hR2⟩) rfl hl.1 (Nat.le_of_ble_eq_true rfl) d_M_wake_53 ⟨Nat.zero_le _, Nat.zero_le _⟩) (fun H locs hw => ?_)
          refine lv_iconst (v := 4) hx hb d_M_wake_56 (by decide) ?_
          refine lv_iadd hx hb d_M_wake_57 ?_
          refine lv_iconst (v := 2) hx hb d_M_wake_58 (by decide) ?_
          obtain ⟨hi17, hf⟩ := zq_gs hf
          obtain ⟨σ18, e_σ18, hf⟩ := zq_ss hf
          refine zr_iast G hw 65 rfl rfl  hi17  d_M_wake_59 (fun H locs hw => ?_)
          rw [← e_σ18] at hw
          refine lv_aload_n hx hb d_M_wake_60 rfl (lv_at hl 1 rfl) ?_
          refine lv_iload_n hx hb d_M_wake_61 rfl (lv_at hl 2 rfl) ?_
          refine lv_iconst (v := 0) hx hb d_M_wake_62 (by decide) ?_
          obtain ⟨σ19, hc21, hf⟩ := zq_ds hf
          refine zr_cv hw (zr_runV (rest := []) (ci := 8) (o := 1) G hw [.int x1, .int 0] (zc_M_goOn hJ hc21) (cwV 2 hts (zs_gV zm_648 zm_649 zm_650 zm_551 zm_647) rfl rfl rfl (by decide +kernel) ⟨Nat.le_trans (by decide) hR1, Nat.le_trans (by decide) hR2⟩) rfl rfl rfl hl.1 (Nat.le_of_ble_eq_true rfl) d_M_wake_63 ⟨Nat.zero_le _, Nat.zero_le _⟩) (fun H locs hw => ?_)
          refine lv_aload_n hx hb d_M_wake_66 rfl (lv_at hl 1 rfl) ?_
          obtain ⟨r23, σ22, hc24, hf⟩ := zq_cs hf
          refine zr_ci hw (zr_runV (rest := []) (ci := 8) (o := 1) G hw [] (zc_M_reach hJ hc24) (cwV 0 hts (zs_gV zm_643 zm_644 zm_645 zm_551 zm_642) rfl rfl rfl (by decide +kernel) ⟨Nat.le_trans (by decide) hR1, Nat.le_trans (by decide) hR2⟩) rfl rfl rfl hl.1 (Nat.le_of_ble_eq_true rfl) d_M_wake_67 ⟨Nat.zero_le _, Nat.zero_le _⟩) (fun H locs hw => ?_)
          refine lv_if_ne hx hb d_M_wake_70 (tgt := 75) rfl (fun hc => ?_) (fun hc => ?_)
          · have hf := (if_neg hc).symm.trans hf
            exact K75 (zf_M_wake_5 F n) ih x1 x2 1 x4 σ22 H locs ls hf hw (lv_sub hl [1, 2, 3, 0, 4] rfl)
          · have hf := (if_pos hc).symm.trans hf
            refine lv_iconst (v := 0) hx hb d_M_wake_73 (by decide) ?_
            exact zr_zret G hw hr hlocks (by decide) hf hQ d_M_wake_74
        · have hf := (if_pos hc).symm.trans hf
          refine lv_goto hx hb d_M_wake_27 (tgt := 75) rfl ?_
          exact K75 (zf_M_wake_5 F n) ih x1 x2 x3 x4 σ9 H locs ls hf hw (lv_sub hl [0, 1, 2, 3, 4] rfl)
  unfold zf_M_wake at hf
  refine lv_iconst (v := 0) hx hb d_M_wake_0 (by decide) ?_
  refine lv_istore_n hx hb d_M_wake_1 rfl hl (by decide) rfl (fun ls hl => ?_)
  have hl : lv_has ls 5 [(3, .int 0), (0, .ref (ad 1)), (1, .int x1), (2, .int x2)] := hl
  refine lv_iconst (v := 0) hx hb d_M_wake_2 (by decide) ?_
  refine lv_istore hx hb d_M_wake_3 hl (by decide) rfl (fun ls hl => ?_)
  have hl : lv_has ls 5 [(4, .int 0), (3, .int 0), (0, .ref (ad 1)), (1, .int x1), (2, .int x2)] := hl
  exact K5 F x1 x2 0 0 σ H locs ls hf hw (lv_sub hl [2, 3, 4, 1, 0] rfl)
/-! ScheduleCheckModel.move -/
def y_M_move : MethodName := ⟨"ScheduleCheckModel","move","()Z"⟩
theorem d_M_move_0 : decode prog_13_method_35_code 0 = .ok (.aload_n 0, 1) := by decide +kernel
theorem d_M_move_1 : decode prog_13_method_35_code 1 = .ok (.getfield 45, 3) := by decide +kernel
theorem d_M_move_4 : decode prog_13_method_35_code 4 = .ok (.aload_n 0, 1) := by decide +kernel
theorem d_M_move_5 : decode prog_13_method_35_code 5 = .ok (.getfield 319, 3) := by decide +kernel
theorem d_M_move_8 : decode prog_13_method_35_code 8 = .ok (.invokestatic 296, 3) := by decide +kernel
theorem d_M_move_11 : decode prog_13_method_35_code 11 = .ok (.iconst 3, 1) := by decide +kernel
theorem d_M_move_12 : decode prog_13_method_35_code 12 = .ok (.iadd, 1) := by decide +kernel
theorem d_M_move_13 : decode prog_13_method_35_code 13 = .ok (.iaload, 1) := by decide +kernel
theorem d_M_move_14 : decode prog_13_method_35_code 14 = .ok (.istore_n 1, 1) := by decide +kernel
theorem d_M_move_15 : decode prog_13_method_35_code 15 = .ok (.aload_n 0, 1) := by decide +kernel
theorem d_M_move_16 : decode prog_13_method_35_code 16 = .ok (.getfield 16, 3) := by decide +kernel
theorem d_M_move_19 : decode prog_13_method_35_code 19 = .ok (.getfield 232, 3) := by decide +kernel
theorem d_M_move_22 : decode prog_13_method_35_code 22 = .ok (.iload_n 1, 1) := by decide +kernel
theorem d_M_move_23 : decode prog_13_method_35_code 23 = .ok (.iaload, 1) := by decide +kernel
theorem d_M_move_24 : decode prog_13_method_35_code 24 = .ok (.istore_n 2, 1) := by decide +kernel
theorem d_M_move_25 : decode prog_13_method_35_code 25 = .ok (.aload_n 0, 1) := by decide +kernel
theorem d_M_move_26 : decode prog_13_method_35_code 26 = .ok (.getfield 16, 3) := by decide +kernel
theorem d_M_move_29 : decode prog_13_method_35_code 29 = .ok (.getfield 244, 3) := by decide +kernel
theorem d_M_move_32 : decode prog_13_method_35_code 32 = .ok (.iload_n 1, 1) := by decide +kernel
theorem d_M_move_33 : decode prog_13_method_35_code 33 = .ok (.iaload, 1) := by decide +kernel
theorem d_M_move_34 : decode prog_13_method_35_code 34 = .ok (.istore_n 3, 1) := by decide +kernel
theorem d_M_move_35 : decode prog_13_method_35_code 35 = .ok (.aload_n 0, 1) := by decide +kernel
theorem d_M_move_36 : decode prog_13_method_35_code 36 = .ok (.getfield 45, 3) := by decide +kernel
theorem d_M_move_39 : decode prog_13_method_35_code 39 = .ok (.iconst 0, 1) := by decide +kernel
theorem d_M_move_40 : decode prog_13_method_35_code 40 = .ok (.aload_n 0, 1) := by decide +kernel
theorem d_M_move_41 : decode prog_13_method_35_code 41 = .ok (.getfield 48, 3) := by decide +kernel
theorem d_M_move_44 : decode prog_13_method_35_code 44 = .ok (.iconst 0, 1) := by decide +kernel
theorem d_M_move_45 : decode prog_13_method_35_code 45 = .ok (.bipush 34, 2) := by decide +kernel
theorem d_M_move_47 : decode prog_13_method_35_code 47 = .ok (.invokestatic 310, 3) := by decide +kernel
theorem d_M_move_50 : decode prog_13_method_35_code 50 = .ok (.aload_n 0, 1) := by decide +kernel
theorem d_M_move_51 : decode prog_13_method_35_code 51 = .ok (.getfield 45, 3) := by decide +kernel
theorem d_M_move_54 : decode prog_13_method_35_code 54 = .ok (.aload_n 0, 1) := by decide +kernel
theorem d_M_move_55 : decode prog_13_method_35_code 55 = .ok (.getfield 319, 3) := by decide +kernel
theorem d_M_move_58 : decode prog_13_method_35_code 58 = .ok (.invokestatic 296, 3) := by decide +kernel
theorem d_M_move_61 : decode prog_13_method_35_code 61 = .ok (.iconst 4, 1) := by decide +kernel
theorem d_M_move_62 : decode prog_13_method_35_code 62 = .ok (.iadd, 1) := by decide +kernel
theorem d_M_move_63 : decode prog_13_method_35_code 63 = .ok (.iaload, 1) := by decide +kernel
theorem d_M_move_64 : decode prog_13_method_35_code 64 = .ok (.iconst 2, 1) := by decide +kernel
theorem d_M_move_65 : decode prog_13_method_35_code 65 = .ok (.if_icmp .ne 42, 3) := by decide +kernel
theorem d_M_move_68 : decode prog_13_method_35_code 68 = .ok (.aload_n 0, 1) := by decide +kernel
theorem d_M_move_69 : decode prog_13_method_35_code 69 = .ok (.getfield 48, 3) := by decide +kernel
theorem d_M_move_72 : decode prog_13_method_35_code 72 = .ok (.bipush 8, 2) := by decide +kernel
theorem d_M_move_74 : decode prog_13_method_35_code 74 = .ok (.iload_n 3, 1) := by decide +kernel
theorem d_M_move_75 : decode prog_13_method_35_code 75 = .ok (.iadd, 1) := by decide +kernel
theorem d_M_move_76 : decode prog_13_method_35_code 76 = .ok (.aload_n 0, 1) := by decide +kernel
theorem d_M_move_77 : decode prog_13_method_35_code 77 = .ok (.getfield 319, 3) := by decide +kernel
theorem d_M_move_80 : decode prog_13_method_35_code 80 = .ok (.iastore, 1) := by decide +kernel
theorem d_M_move_81 : decode prog_13_method_35_code 81 = .ok (.aload_n 0, 1) := by decide +kernel
theorem d_M_move_82 : decode prog_13_method_35_code 82 = .ok (.getfield 48, 3) := by decide +kernel
theorem d_M_move_85 : decode prog_13_method_35_code 85 = .ok (.aload_n 0, 1) := by decide +kernel
theorem d_M_move_86 : decode prog_13_method_35_code 86 = .ok (.getfield 319, 3) := by decide +kernel
theorem d_M_move_89 : decode prog_13_method_35_code 89 = .ok (.invokestatic 296, 3) := by decide +kernel
theorem d_M_move_92 : decode prog_13_method_35_code 92 = .ok (.iconst 4, 1) := by decide +kernel
theorem d_M_move_93 : decode prog_13_method_35_code 93 = .ok (.iadd, 1) := by decide +kernel
theorem d_M_move_94 : decode prog_13_method_35_code 94 = .ok (.iconst 0, 1) := by decide +kernel
theorem d_M_move_95 : decode prog_13_method_35_code 95 = .ok (.iastore, 1) := by decide +kernel
theorem d_M_move_96 : decode prog_13_method_35_code 96 = .ok (.aload_n 0, 1) := by decide +kernel
theorem d_M_move_97 : decode prog_13_method_35_code 97 = .ok (.iload_n 1, 1) := by decide +kernel
theorem d_M_move_98 : decode prog_13_method_35_code 98 = .ok (.iconst 0, 1) := by decide +kernel
theorem d_M_move_99 : decode prog_13_method_35_code 99 = .ok (.invokevirtual 327, 3) := by decide +kernel
theorem d_M_move_102 : decode prog_13_method_35_code 102 = .ok (.aload_n 0, 1) := by decide +kernel
theorem d_M_move_103 : decode prog_13_method_35_code 103 = .ok (.invokevirtual 324, 3) := by decide +kernel
theorem d_M_move_106 : decode prog_13_method_35_code 106 = .ok (.ireturn, 1) := by decide +kernel
theorem d_M_move_107 : decode prog_13_method_35_code 107 = .ok (.iload_n 2, 1) := by decide +kernel
theorem d_M_move_108 : decode prog_13_method_35_code 108 = .ok (.iconst 2, 1) := by decide +kernel
theorem d_M_move_109 : decode prog_13_method_35_code 109 = .ok (.iconst 5, 1) := by decide +kernel
theorem d_M_move_110 : decode prog_13_method_35_code 110 = .ok (.invokestatic 62, 3) := by decide +kernel
theorem d_M_move_113 : decode prog_13_method_35_code 113 = .ok (.ifCond .eq 25, 3) := by decide +kernel
theorem d_M_move_116 : decode prog_13_method_35_code 116 = .ok (.aload_n 0, 1) := by decide +kernel
theorem d_M_move_117 : decode prog_13_method_35_code 117 = .ok (.getfield 45, 3) := by decide +kernel
theorem d_M_move_120 : decode prog_13_method_35_code 120 = .ok (.bipush 8, 2) := by decide +kernel
theorem d_M_move_122 : decode prog_13_method_35_code 122 = .ok (.iload_n 3, 1) := by decide +kernel
theorem d_M_move_123 : decode prog_13_method_35_code 123 = .ok (.iadd, 1) := by decide +kernel
theorem d_M_move_124 : decode prog_13_method_35_code 124 = .ok (.iaload, 1) := by decide +kernel
theorem d_M_move_125 : decode prog_13_method_35_code 125 = .ok (.aload_n 0, 1) := by decide +kernel
theorem d_M_move_126 : decode prog_13_method_35_code 126 = .ok (.getfield 319, 3) := by decide +kernel
theorem d_M_move_129 : decode prog_13_method_35_code 129 = .ok (.if_icmp .eq 9, 3) := by decide +kernel
theorem d_M_move_132 : decode prog_13_method_35_code 132 = .ok (.aload_n 0, 1) := by decide +kernel
theorem d_M_move_133 : decode prog_13_method_35_code 133 = .ok (.iconst 2, 1) := by decide +kernel
theorem d_M_move_134 : decode prog_13_method_35_code 134 = .ok (.invokevirtual 330, 3) := by decide +kernel
theorem d_M_move_137 : decode prog_13_method_35_code 137 = .ok (.ireturn, 1) := by decide +kernel
theorem d_M_move_138 : decode prog_13_method_35_code 138 = .ok (.iload_n 2, 1) := by decide +kernel
theorem d_M_move_139 : decode prog_13_method_35_code 139 = .ok (.tableswitch 259 0 9 #[53, 100, 116, 129, 159, 166, 213, 259, 259, 239], 53) := by decide +kernel
theorem d_M_move_192 : decode prog_13_method_35_code 192 = .ok (.aload_n 0, 1) := by decide +kernel
theorem d_M_move_193 : decode prog_13_method_35_code 193 = .ok (.getfield 48, 3) := by decide +kernel
theorem d_M_move_196 : decode prog_13_method_35_code 196 = .ok (.iload_n 3, 1) := by decide +kernel
theorem d_M_move_197 : decode prog_13_method_35_code 197 = .ok (.bipush 8, 2) := by decide +kernel
theorem d_M_move_199 : decode prog_13_method_35_code 199 = .ok (.if_icmp .ge 7, 3) := by decide +kernel
theorem d_M_move_202 : decode prog_13_method_35_code 202 = .ok (.iload_n 3, 1) := by decide +kernel
theorem d_M_move_203 : decode prog_13_method_35_code 203 = .ok (.goto 15, 3) := by decide +kernel
theorem d_M_move_206 : decode prog_13_method_35_code 206 = .ok (.aload_n 0, 1) := by decide +kernel
theorem d_M_move_207 : decode prog_13_method_35_code 207 = .ok (.getfield 319, 3) := by decide +kernel
theorem d_M_move_210 : decode prog_13_method_35_code 210 = .ok (.invokestatic 296, 3) := by decide +kernel
theorem d_M_move_213 : decode prog_13_method_35_code 213 = .ok (.iload_n 3, 1) := by decide +kernel
theorem d_M_move_214 : decode prog_13_method_35_code 214 = .ok (.iadd, 1) := by decide +kernel
theorem d_M_move_215 : decode prog_13_method_35_code 215 = .ok (.bipush 8, 2) := by decide +kernel
theorem d_M_move_217 : decode prog_13_method_35_code 217 = .ok (.isub, 1) := by decide +kernel
theorem d_M_move_218 : decode prog_13_method_35_code 218 = .ok (.aload_n 0, 1) := by decide +kernel
theorem d_M_move_219 : decode prog_13_method_35_code 219 = .ok (.aload_n 0, 1) := by decide +kernel
theorem d_M_move_220 : decode prog_13_method_35_code 220 = .ok (.getfield 319, 3) := by decide +kernel
theorem d_M_move_223 : decode prog_13_method_35_code 223 = .ok (.aload_n 0, 1) := by decide +kernel
theorem d_M_move_224 : decode prog_13_method_35_code 224 = .ok (.getfield 16, 3) := by decide +kernel
theorem d_M_move_227 : decode prog_13_method_35_code 227 = .ok (.getfield 249, 3) := by decide +kernel
theorem d_M_move_230 : decode prog_13_method_35_code 230 = .ok (.iload_n 1, 1) := by decide +kernel
theorem d_M_move_231 : decode prog_13_method_35_code 231 = .ok (.iaload, 1) := by decide +kernel
theorem d_M_move_232 : decode prog_13_method_35_code 232 = .ok (.invokevirtual 333, 3) := by decide +kernel
theorem d_M_move_235 : decode prog_13_method_35_code 235 = .ok (.iastore, 1) := by decide +kernel
theorem d_M_move_236 : decode prog_13_method_35_code 236 = .ok (.goto 197, 3) := by decide +kernel
theorem d_M_move_239 : decode prog_13_method_35_code 239 = .ok (.aload_n 0, 1) := by decide +kernel
theorem d_M_move_240 : decode prog_13_method_35_code 240 = .ok (.getfield 48, 3) := by decide +kernel
theorem d_M_move_243 : decode prog_13_method_35_code 243 = .ok (.bipush 8, 2) := by decide +kernel
theorem d_M_move_245 : decode prog_13_method_35_code 245 = .ok (.iload_n 3, 1) := by decide +kernel
theorem d_M_move_246 : decode prog_13_method_35_code 246 = .ok (.iadd, 1) := by decide +kernel
theorem d_M_move_247 : decode prog_13_method_35_code 247 = .ok (.aload_n 0, 1) := by decide +kernel
theorem d_M_move_248 : decode prog_13_method_35_code 248 = .ok (.getfield 319, 3) := by decide +kernel
theorem d_M_move_251 : decode prog_13_method_35_code 251 = .ok (.iastore, 1) := by decide +kernel
theorem d_M_move_252 : decode prog_13_method_35_code 252 = .ok (.goto 181, 3) := by decide +kernel
theorem d_M_move_255 : decode prog_13_method_35_code 255 = .ok (.aload_n 0, 1) := by decide +kernel
theorem d_M_move_256 : decode prog_13_method_35_code 256 = .ok (.getfield 48, 3) := by decide +kernel
theorem d_M_move_259 : decode prog_13_method_35_code 259 = .ok (.bipush 8, 2) := by decide +kernel
theorem d_M_move_261 : decode prog_13_method_35_code 261 = .ok (.iload_n 3, 1) := by decide +kernel
theorem d_M_move_262 : decode prog_13_method_35_code 262 = .ok (.iadd, 1) := by decide +kernel
theorem d_M_move_263 : decode prog_13_method_35_code 263 = .ok (.iconst (-1), 1) := by decide +kernel
theorem d_M_move_264 : decode prog_13_method_35_code 264 = .ok (.iastore, 1) := by decide +kernel
theorem d_M_move_265 : decode prog_13_method_35_code 265 = .ok (.goto 168, 3) := by decide +kernel
theorem d_M_move_268 : decode prog_13_method_35_code 268 = .ok (.aload_n 0, 1) := by decide +kernel
theorem d_M_move_269 : decode prog_13_method_35_code 269 = .ok (.getfield 48, 3) := by decide +kernel
theorem d_M_move_272 : decode prog_13_method_35_code 272 = .ok (.bipush 8, 2) := by decide +kernel
theorem d_M_move_274 : decode prog_13_method_35_code 274 = .ok (.iload_n 3, 1) := by decide +kernel
theorem d_M_move_275 : decode prog_13_method_35_code 275 = .ok (.iadd, 1) := by decide +kernel
theorem d_M_move_276 : decode prog_13_method_35_code 276 = .ok (.iconst (-1), 1) := by decide +kernel
theorem d_M_move_277 : decode prog_13_method_35_code 277 = .ok (.iastore, 1) := by decide +kernel
theorem d_M_move_278 : decode prog_13_method_35_code 278 = .ok (.aload_n 0, 1) := by decide +kernel
theorem d_M_move_279 : decode prog_13_method_35_code 279 = .ok (.getfield 48, 3) := by decide +kernel
theorem d_M_move_282 : decode prog_13_method_35_code 282 = .ok (.aload_n 0, 1) := by decide +kernel
theorem d_M_move_283 : decode prog_13_method_35_code 283 = .ok (.getfield 319, 3) := by decide +kernel
theorem d_M_move_286 : decode prog_13_method_35_code 286 = .ok (.invokestatic 296, 3) := by decide +kernel
theorem d_M_move_289 : decode prog_13_method_35_code 289 = .ok (.iconst 4, 1) := by decide +kernel
theorem d_M_move_290 : decode prog_13_method_35_code 290 = .ok (.iadd, 1) := by decide +kernel
theorem d_M_move_291 : decode prog_13_method_35_code 291 = .ok (.iconst 1, 1) := by decide +kernel
theorem d_M_move_292 : decode prog_13_method_35_code 292 = .ok (.iastore, 1) := by decide +kernel
theorem d_M_move_293 : decode prog_13_method_35_code 293 = .ok (.aload_n 0, 1) := by decide +kernel
theorem d_M_move_294 : decode prog_13_method_35_code 294 = .ok (.invokevirtual 324, 3) := by decide +kernel
theorem d_M_move_297 : decode prog_13_method_35_code 297 = .ok (.ireturn, 1) := by decide +kernel
theorem d_M_move_298 : decode prog_13_method_35_code 298 = .ok (.aload_n 0, 1) := by decide +kernel
theorem d_M_move_299 : decode prog_13_method_35_code 299 = .ok (.iload_n 1, 1) := by decide +kernel
theorem d_M_move_300 : decode prog_13_method_35_code 300 = .ok (.iload_n 3, 1) := by decide +kernel
theorem d_M_move_301 : decode prog_13_method_35_code 301 = .ok (.invokevirtual 336, 3) := by decide +kernel
theorem d_M_move_304 : decode prog_13_method_35_code 304 = .ok (.ireturn, 1) := by decide +kernel
theorem d_M_move_305 : decode prog_13_method_35_code 305 = .ok (.iconst 0, 1) := by decide +kernel
theorem d_M_move_306 : decode prog_13_method_35_code 306 = .ok (.istore 4, 2) := by decide +kernel
theorem d_M_move_308 : decode prog_13_method_35_code 308 = .ok (.iload 4, 2) := by decide +kernel
theorem d_M_move_310 : decode prog_13_method_35_code 310 = .ok (.aload_n 0, 1) := by decide +kernel
theorem d_M_move_311 : decode prog_13_method_35_code 311 = .ok (.getfield 16, 3) := by decide +kernel
theorem d_M_move_314 : decode prog_13_method_35_code 314 = .ok (.getfield 164, 3) := by decide +kernel
theorem d_M_move_317 : decode prog_13_method_35_code 317 = .ok (.if_icmp .ge 32, 3) := by decide +kernel
theorem d_M_move_320 : decode prog_13_method_35_code 320 = .ok (.aload_n 0, 1) := by decide +kernel
theorem d_M_move_321 : decode prog_13_method_35_code 321 = .ok (.iload 4, 2) := by decide +kernel
theorem d_M_move_323 : decode prog_13_method_35_code 323 = .ok (.iload_n 3, 1) := by decide +kernel
theorem d_M_move_324 : decode prog_13_method_35_code 324 = .ok (.invokevirtual 338, 3) := by decide +kernel
theorem d_M_move_327 : decode prog_13_method_35_code 327 = .ok (.ifCond .eq 16, 3) := by decide +kernel
theorem d_M_move_330 : decode prog_13_method_35_code 330 = .ok (.aload_n 0, 1) := by decide +kernel
theorem d_M_move_331 : decode prog_13_method_35_code 331 = .ok (.getfield 48, 3) := by decide +kernel
theorem d_M_move_334 : decode prog_13_method_35_code 334 = .ok (.iload 4, 2) := by decide +kernel
theorem d_M_move_336 : decode prog_13_method_35_code 336 = .ok (.invokestatic 296, 3) := by decide +kernel
theorem d_M_move_339 : decode prog_13_method_35_code 339 = .ok (.iconst 4, 1) := by decide +kernel
theorem d_M_move_340 : decode prog_13_method_35_code 340 = .ok (.iadd, 1) := by decide +kernel
theorem d_M_move_341 : decode prog_13_method_35_code 341 = .ok (.iconst 2, 1) := by decide +kernel
theorem d_M_move_342 : decode prog_13_method_35_code 342 = .ok (.iastore, 1) := by decide +kernel
theorem d_M_move_343 : decode prog_13_method_35_code 343 = .ok (.iinc 4 1, 3) := by decide +kernel
theorem d_M_move_346 : decode prog_13_method_35_code 346 = .ok (.goto (-38), 3) := by decide +kernel
theorem d_M_move_349 : decode prog_13_method_35_code 349 = .ok (.goto 84, 3) := by decide +kernel
theorem d_M_move_352 : decode prog_13_method_35_code 352 = .ok (.aload_n 0, 1) := by decide +kernel
theorem d_M_move_353 : decode prog_13_method_35_code 353 = .ok (.aload_n 0, 1) := by decide +kernel
theorem d_M_move_354 : decode prog_13_method_35_code 354 = .ok (.getfield 319, 3) := by decide +kernel
theorem d_M_move_357 : decode prog_13_method_35_code 357 = .ok (.aload_n 0, 1) := by decide +kernel
theorem d_M_move_358 : decode prog_13_method_35_code 358 = .ok (.getfield 16, 3) := by decide +kernel
theorem d_M_move_361 : decode prog_13_method_35_code 361 = .ok (.getfield 249, 3) := by decide +kernel
theorem d_M_move_364 : decode prog_13_method_35_code 364 = .ok (.iload_n 1, 1) := by decide +kernel
theorem d_M_move_365 : decode prog_13_method_35_code 365 = .ok (.iaload, 1) := by decide +kernel
theorem d_M_move_366 : decode prog_13_method_35_code 366 = .ok (.invokevirtual 333, 3) := by decide +kernel
theorem d_M_move_369 : decode prog_13_method_35_code 369 = .ok (.ifCond .ne 64, 3) := by decide +kernel
theorem d_M_move_372 : decode prog_13_method_35_code 372 = .ok (.aload_n 0, 1) := by decide +kernel
theorem d_M_move_373 : decode prog_13_method_35_code 373 = .ok (.iconst 1, 1) := by decide +kernel
theorem d_M_move_374 : decode prog_13_method_35_code 374 = .ok (.invokevirtual 330, 3) := by decide +kernel
theorem d_M_move_377 : decode prog_13_method_35_code 377 = .ok (.ireturn, 1) := by decide +kernel
theorem d_M_move_378 : decode prog_13_method_35_code 378 = .ok (.aload_n 0, 1) := by decide +kernel
theorem d_M_move_379 : decode prog_13_method_35_code 379 = .ok (.getfield 48, 3) := by decide +kernel
theorem d_M_move_382 : decode prog_13_method_35_code 382 = .ok (.aload_n 0, 1) := by decide +kernel
theorem d_M_move_383 : decode prog_13_method_35_code 383 = .ok (.getfield 319, 3) := by decide +kernel
theorem d_M_move_386 : decode prog_13_method_35_code 386 = .ok (.invokestatic 296, 3) := by decide +kernel
theorem d_M_move_389 : decode prog_13_method_35_code 389 = .ok (.iconst 3, 1) := by decide +kernel
theorem d_M_move_390 : decode prog_13_method_35_code 390 = .ok (.iadd, 1) := by decide +kernel
theorem d_M_move_391 : decode prog_13_method_35_code 391 = .ok (.iconst (-1), 1) := by decide +kernel
theorem d_M_move_392 : decode prog_13_method_35_code 392 = .ok (.iastore, 1) := by decide +kernel
theorem d_M_move_393 : decode prog_13_method_35_code 393 = .ok (.aload_n 0, 1) := by decide +kernel
theorem d_M_move_394 : decode prog_13_method_35_code 394 = .ok (.invokevirtual 324, 3) := by decide +kernel
theorem d_M_move_397 : decode prog_13_method_35_code 397 = .ok (.ireturn, 1) := by decide +kernel
theorem d_M_move_398 : decode prog_13_method_35_code 398 = .ok (.aload_n 0, 1) := by decide +kernel
theorem d_M_move_399 : decode prog_13_method_35_code 399 = .ok (.iload_n 1, 1) := by decide +kernel
theorem d_M_move_400 : decode prog_13_method_35_code 400 = .ok (.aload_n 0, 1) := by decide +kernel
theorem d_M_move_401 : decode prog_13_method_35_code 401 = .ok (.aload_n 0, 1) := by decide +kernel
theorem d_M_move_402 : decode prog_13_method_35_code 402 = .ok (.getfield 319, 3) := by decide +kernel
theorem d_M_move_405 : decode prog_13_method_35_code 405 = .ok (.aload_n 0, 1) := by decide +kernel
theorem d_M_move_406 : decode prog_13_method_35_code 406 = .ok (.getfield 16, 3) := by decide +kernel
theorem d_M_move_409 : decode prog_13_method_35_code 409 = .ok (.getfield 249, 3) := by decide +kernel
theorem d_M_move_412 : decode prog_13_method_35_code 412 = .ok (.iload_n 1, 1) := by decide +kernel
theorem d_M_move_413 : decode prog_13_method_35_code 413 = .ok (.iaload, 1) := by decide +kernel
theorem d_M_move_414 : decode prog_13_method_35_code 414 = .ok (.invokevirtual 333, 3) := by decide +kernel
theorem d_M_move_417 : decode prog_13_method_35_code 417 = .ok (.ifCond .eq 7, 3) := by decide +kernel
theorem d_M_move_420 : decode prog_13_method_35_code 420 = .ok (.iconst 1, 1) := by decide +kernel
theorem d_M_move_421 : decode prog_13_method_35_code 421 = .ok (.goto 4, 3) := by decide +kernel
theorem d_M_move_424 : decode prog_13_method_35_code 424 = .ok (.iconst 2, 1) := by decide +kernel
theorem d_M_move_425 : decode prog_13_method_35_code 425 = .ok (.invokevirtual 327, 3) := by decide +kernel
theorem d_M_move_428 : decode prog_13_method_35_code 428 = .ok (.aload_n 0, 1) := by decide +kernel
theorem d_M_move_429 : decode prog_13_method_35_code 429 = .ok (.invokevirtual 324, 3) := by decide +kernel
theorem d_M_move_432 : decode prog_13_method_35_code 432 = .ok (.ireturn, 1) := by decide +kernel
theorem d_M_move_433 : decode prog_13_method_35_code 433 = .ok (.aload_n 0, 1) := by decide +kernel
theorem d_M_move_434 : decode prog_13_method_35_code 434 = .ok (.iload_n 1, 1) := by decide +kernel
theorem d_M_move_435 : decode prog_13_method_35_code 435 = .ok (.iconst 0, 1) := by decide +kernel
theorem d_M_move_436 : decode prog_13_method_35_code 436 = .ok (.invokevirtual 327, 3) := by decide +kernel
theorem d_M_move_439 : decode prog_13_method_35_code 439 = .ok (.aload_n 0, 1) := by decide +kernel
theorem d_M_move_440 : decode prog_13_method_35_code 440 = .ok (.invokevirtual 324, 3) := by decide +kernel
theorem d_M_move_443 : decode prog_13_method_35_code 443 = .ok (.ireturn, 1) := by decide +kernel
def zf_M_move_433 (F : Nat)  (x1 : Int32) (σ : zs_S) : Option (Int32 × zs_S) :=
  zq_d (zf_M_goOn F x1 0 σ) fun σ133 =>
  zq_c (zf_M_reach F σ133) fun r137 σ136 =>
  zq_g (zq_z r137) <|
  some (r137, σ136)
def zf_M_move_425 (F : Nat)  (t0 : Int32) (t1 : Int32) (σ : zs_S) : Option (Int32 × zs_S) :=
  zq_d (zf_M_goOn F t1 t0 σ) fun σ127 =>
  zq_c (zf_M_reach F σ127) fun r131 σ130 =>
  zq_g (zq_z r131) <|
  some (r131, σ130)
def zf_M_move_343 (F : Nat) (k308 : Int32 → Int32 → Int32 → zs_S → Option (Int32 × zs_S)) (x1 : Int32) (x3 : Int32) (x4 : Int32) (σ : zs_S) : Option (Int32 × zs_S) :=
  zq_v (x4 + 1) fun v139 =>
  k308 x1 x3 v139 σ
def zf_M_move_308 (F : Nat)  : Nat → Int32 → Int32 → Int32 → zs_S → Option (Int32 × zs_S)
  | 0, _, _, _, _ => none
  | n + 1, x1, x3, x4, σ =>
    zq_q (zs_r σ 1 2) fun q117 =>
    zq_g (zq_k 1 q117 19) <|
    if (zs_i σ q117 5) ≤ x4 then (
      zf_M_move_433 F x1 σ
    ) else (
      zq_c (zf_M_waitsFor F x4 x3 σ) fun r120 σ119 =>
      if r120 = 0 then (
        zf_M_move_343 F (zf_M_move_308 F n) x1 x3 x4 σ119
      ) else (
        zq_c (zf_M_each F x4 σ119) fun r123 σ122 =>
        zq_g (zq_b (r123 + 4) 34) <|
        zq_v (zs_wi σ122 65 ((r123 + 4).toNatClampNeg) 2) fun σ126 =>
        zf_M_move_343 F (zf_M_move_308 F n) x1 x3 x4 σ126
      )
    )
def zf_M_move_218 (F : Nat)  (x1 : Int32) (t0 : Int32) (σ : zs_S) : Option (Int32 × zs_S) :=
  zq_q (zs_r σ 1 2) fun q107 =>
  zq_g (zq_k 1 q107 19) <|
  zq_q (zd_rf 1 q107 9) fun q109 =>
  zq_g (zq_k 1 q109 0) <|
  zq_g (zq_b x1 (zd_sh 1 q109).2) <|
  zq_c (zf_M_reckon F (zs_i σ 1 29) (zs_i σ q109 (x1).toNatClampNeg) σ) fun r113 σ112 =>
  zq_g (zq_b t0 34) <|
  zq_v (zs_wi σ112 65 ((t0).toNatClampNeg) r113) fun σ116 =>
  zf_M_move_433 F x1 σ116
def zf_M_move_138 (F : Nat)  (x1 : Int32) (x2 : Int32) (x3 : Int32) (σ : zs_S) : Option (Int32 × zs_S) :=
  if x2 = 0 then (
    if 8 ≤ x3 then (
      zq_c (zf_M_each F (zs_i σ 1 29) σ) fun r45 σ44 =>
      zf_M_move_218 F x1 ((r45 + x3) - 8) σ44
    ) else (
      zf_M_move_218 F x1 x3 σ
    )
  ) else (
  if x2 = 1 then (
    zq_g (zq_b (8 + x3) 34) <|
    zq_v (zs_wi σ 65 ((8 + x3).toNatClampNeg) (zs_i σ 1 29)) fun σ48 =>
    zf_M_move_433 F x1 σ48
  ) else (
  if x2 = 2 then (
    zq_g (zq_b (8 + x3) 34) <|
    zq_v (zs_wi σ 65 ((8 + x3).toNatClampNeg) ((-1))) fun σ50 =>
    zf_M_move_433 F x1 σ50
  ) else (
  if x2 = 3 then (
    zq_g (zq_b (8 + x3) 34) <|
    zq_v (zs_wi σ 65 ((8 + x3).toNatClampNeg) ((-1))) fun σ52 =>
    zq_c (zf_M_each F (zs_i σ52 1 29) σ52) fun r54 σ53 =>
    zq_g (zq_b (r54 + 4) 34) <|
    zq_v (zs_wi σ53 65 ((r54 + 4).toNatClampNeg) 1) fun σ57 =>
    zq_c (zf_M_reach F σ57) fun r59 σ58 =>
    zq_g (zq_z r59) <|
    some (r59, σ58)
  ) else (
  if x2 = 4 then (
    zq_c (zf_M_wake F x1 x3 σ) fun r62 σ61 =>
    zq_g (zq_z r62) <|
    some (r62, σ61)
  ) else (
  if x2 = 5 then (
    zf_M_move_308 F F x1 x3 0 σ
  ) else (
  if x2 = 6 then (
    zq_q (zs_r σ 1 2) fun q64 =>
    zq_g (zq_k 1 q64 19) <|
    zq_q (zd_rf 1 q64 9) fun q66 =>
    zq_g (zq_k 1 q66 0) <|
    zq_g (zq_b x1 (zd_sh 1 q66).2) <|
    zq_c (zf_M_reckon F (zs_i σ 1 29) (zs_i σ q66 (x1).toNatClampNeg) σ) fun r70 σ69 =>
    if r70 = 0 then (
      zq_c (zf_M_wrong F 1 σ69) fun r73 σ72 =>
      zq_g (zq_z r73) <|
      some (r73, σ72)
    ) else (
      zf_M_move_433 F x1 σ69
    )
  ) else (
  if x2 = 7 then (
    zq_q (zs_r σ 1 2) fun q75 =>
    zq_g (zq_k 1 q75 19) <|
    zq_q (zd_rf 1 q75 9) fun q77 =>
    zq_g (zq_k 1 q77 0) <|
    zq_g (zq_b x1 (zd_sh 1 q77).2) <|
    zq_c (zf_M_reckon F (zs_i σ 1 29) (zs_i σ q77 (x1).toNatClampNeg) σ) fun r81 σ80 =>
    if r81 = 0 then (
      zf_M_move_425 F 2 x1 σ80
    ) else (
      zf_M_move_425 F 1 x1 σ80
    )
  ) else (
  if x2 = 8 then (
    zq_q (zs_r σ 1 2) fun q83 =>
    zq_g (zq_k 1 q83 19) <|
    zq_q (zd_rf 1 q83 9) fun q85 =>
    zq_g (zq_k 1 q85 0) <|
    zq_g (zq_b x1 (zd_sh 1 q85).2) <|
    zq_c (zf_M_reckon F (zs_i σ 1 29) (zs_i σ q85 (x1).toNatClampNeg) σ) fun r89 σ88 =>
    if r89 = 0 then (
      zf_M_move_425 F 2 x1 σ88
    ) else (
      zf_M_move_425 F 1 x1 σ88
    )
  ) else (
  if x2 = 9 then (
    zq_c (zf_M_each F (zs_i σ 1 29) σ) fun r92 σ91 =>
    zq_g (zq_b (r92 + 3) 34) <|
    zq_v (zs_wi σ91 65 ((r92 + 3).toNatClampNeg) ((-1))) fun σ95 =>
    zq_c (zf_M_reach F σ95) fun r97 σ96 =>
    zq_g (zq_z r97) <|
    some (r97, σ96)
  ) else (
    zq_q (zs_r σ 1 2) fun q99 =>
    zq_g (zq_k 1 q99 19) <|
    zq_q (zd_rf 1 q99 9) fun q101 =>
    zq_g (zq_k 1 q101 0) <|
    zq_g (zq_b x1 (zd_sh 1 q101).2) <|
    zq_c (zf_M_reckon F (zs_i σ 1 29) (zs_i σ q101 (x1).toNatClampNeg) σ) fun r105 σ104 =>
    if r105 = 0 then (
      zf_M_move_425 F 2 x1 σ104
    ) else (
      zf_M_move_425 F 1 x1 σ104
    )
  ))))))))))
def zf_M_move (F : Nat)  (σ : zs_S) : Option (Int32 × zs_S) :=
  zq_c (zf_M_each F (zs_i σ 1 29) σ) fun r2 σ1 =>
  zq_g (zq_b (r2 + 3) 34) <|
  zq_v (zs_i σ1 64 (r2 + 3).toNatClampNeg) fun v5 =>
  zq_q (zs_r σ1 1 2) fun q6 =>
  zq_g (zq_k 1 q6 19) <|
  zq_q (zd_rf 1 q6 7) fun q8 =>
  zq_g (zq_k 1 q8 0) <|
  zq_g (zq_b v5 (zd_sh 1 q8).2) <|
  zq_v (zs_i σ1 q8 (v5).toNatClampNeg) fun v11 =>
  zq_q (zs_r σ1 1 2) fun q12 =>
  zq_g (zq_k 1 q12 19) <|
  zq_q (zd_rf 1 q12 8) fun q14 =>
  zq_g (zq_k 1 q14 0) <|
  zq_g (zq_b v5 (zd_sh 1 q14).2) <|
  zq_v (zs_i σ1 q14 (v5).toNatClampNeg) fun v17 =>
  zq_g (zq_cp 0 σ1 64 0 0 34 34 34) <|
  zq_v (zs_cp σ1 64 65 (0 : Int32).toNatClampNeg (0 : Int32).toNatClampNeg (34 : Int32).toNatClampNeg) fun σ19 =>
  zq_c (zf_M_each F (zs_i σ19 1 29) σ19) fun r21 σ20 =>
  zq_g (zq_b (r21 + 4) 34) <|
  if (zs_i σ20 64 (r21 + 4).toNatClampNeg) = 2 then (
    zq_g (zq_b (8 + v17) 34) <|
    zq_v (zs_wi σ20 65 ((8 + v17).toNatClampNeg) (zs_i σ20 1 29)) fun σ32 =>
    zq_c (zf_M_each F (zs_i σ32 1 29) σ32) fun r34 σ33 =>
    zq_g (zq_b (r34 + 4) 34) <|
    zq_v (zs_wi σ33 65 ((r34 + 4).toNatClampNeg) 0) fun σ37 =>
    zq_d (zf_M_goOn F v5 0 σ37) fun σ38 =>
    zq_c (zf_M_reach F σ38) fun r42 σ41 =>
    zq_g (zq_z r42) <|
    some (r42, σ41)
  ) else (
    zq_c (zf_M_in F v11 2 5 σ20) fun r25 σ24 =>
    if r25 = 0 then (
      zf_M_move_138 F v5 v11 v17 σ24
    ) else (
      zq_g (zq_b (8 + v17) 34) <|
      if (zs_i σ24 64 (8 + v17).toNatClampNeg) = (zs_i σ24 1 29) then (
        zf_M_move_138 F v5 v11 v17 σ24
      ) else (
        zq_c (zf_M_wrong F 2 σ24) fun r29 σ28 =>
        zq_g (zq_z r29) <|
        some (r29, σ28)
      )
    )
  )
set_option maxHeartbeats 4000000 in
set_option maxRecDepth 100000 in
theorem zc_M_move {l : Launch} {D : va_G} {cA : Nat → ClassId} {ad : Nat → Nat} {A : Nat → Prop} {F : Nat}  {σ : zs_S} {q : Int32 × zs_S} (hJ : zs_J ad) (hf : zf_M_move F  σ = some q) : Met l y_M_move (.code y_M_move prog_13_method_35_code 5 (some .boolean) :: zd_ww) { frames := 3, cells := 0, slots := 0, locals := 105 } (va_Pc [.ref (ad 1)] (zs_U 1 D cA ad A σ)) (zs_Qi 1 D cA ad A q) 0 0 A := by
  refine Met.ofW (cc := prog_13_method_35_code) (maxL := 5) (ret := (some .boolean)) (by decide) rfl ?_
  intro p e s m args below meth c s₁ B hml hv
  obtain ⟨hargs, hP, hK, hD, hZ⟩ := hv
  have G : zs_G 1 p s m args c prog_13_method_35_code 5 "ScheduleCheckModel" D cA ad A := ⟨⟨B.exec, B.bytes, hml, findClass_of_methodNamed B.named, fun w h => atoms_spec B.pre w (List.mem_cons_of_mem _ h)⟩, hK, hJ, hZ⟩
  have hw : zs_I 1 D cA ad A s σ s.heap [] := ⟨hP, hD, va_S.rf⟩
  have hx := G.1.1
  have hb := G.1.2.1
  have hown := G.1.2.2.2.1
  have hts := G.1.2.2.2.2
  have hr := B.returns
  have hlocks := B.notSynchronized
  have he : entryFrame m args 5 = F0 m 0 ((lg_sl [.ref (ad 1)] ++ List.replicate (5 - (lg_sl [.ref (ad 1)]).length) Slot.unset).toArray) [] := by rw [hargs]; exact lg_entry_eq m _ 5
  have hl := lv_entry [.ref (ad 1)] (n := 5) (Nat.le_of_ble_eq_true rfl)
  rw [he]
  generalize (lg_sl [.ref (ad 1)] ++ List.replicate (5 - (lg_sl [.ref (ad 1)]).length) Slot.unset).toArray = ls at hl
  have hl : lv_has ls 5 [(0, .ref (ad 1))] := hl
  obtain ⟨RR, hR⟩ : ∃ z, z = (headSpec (.code y_M_move prog_13_method_35_code 5 (some .boolean) :: zd_ww) { frames := 3, cells := 0, slots := 0, locals := 105 }).room := ⟨_, rfl⟩
  rw [← hR]
  obtain ⟨QQ, hQ⟩ : ∃ z, z = MQ below (zs_Qi 1 D cA ad A q) args s 0 0 A := ⟨_, rfl⟩
  rw [← hQ]
  have hR1 : 3 ≤ RR.frames := by rw [hR]; exact Nat.le_refl _
  have hR2 : 105 ≤ RR.locals := by rw [hR]; exact Nat.le_refl _
  generalize s.heap = H at hw ⊢
  generalize ([] : List Loc) = locs at hw ⊢
  have K433 : ∀ (x1 : Int32) (σ : zs_S) (H : Heap) (locs : List Loc) (ls : Array Slot), zf_M_move_433 F x1 σ = some q → zs_I 1 D cA ad A s σ H locs → lv_has ls 5 [(0, .ref (ad 1)), (1, .int x1)] → W p l e RR s m args below meth c H locs 0 0 QQ (F0 m 433 ls []) := by
    intro  x1 σ H locs ls hf hw hl
    unfold zf_M_move_433 at hf
    refine lv_aload_n hx hb d_M_move_433 rfl (lv_at hl 0 rfl) ?_
    refine lv_iload_n hx hb d_M_move_434 rfl (lv_at hl 1 rfl) ?_
    refine lv_iconst (v := 0) hx hb d_M_move_435 (by decide) ?_
    obtain ⟨σ133, hc135, hf⟩ := zq_ds hf
    refine zr_cv hw (zr_runV (rest := []) (ci := 8) (o := 1) G hw [.int x1, .int 0] (zc_M_goOn hJ hc135) (cwV 2 hts (zs_gV zm_648 zm_649 zm_650 zm_551 zm_647) rfl rfl rfl (by decide +kernel) ⟨Nat.le_trans (by decide) hR1, Nat.le_trans (by decide) hR2⟩) rfl rfl rfl hl.1 (Nat.le_of_ble_eq_true rfl) d_M_move_436 ⟨Nat.zero_le _, Nat.zero_le _⟩) (fun H locs hw => ?_)
    refine lv_aload_n hx hb d_M_move_439 rfl (lv_at hl 0 rfl) ?_
    obtain ⟨r137, σ136, hc138, hf⟩ := zq_cs hf
    refine zr_ci hw (zr_runV (rest := []) (ci := 8) (o := 1) G hw [] (zc_M_reach hJ hc138) (cwV 0 hts (zs_gV zm_643 zm_644 zm_645 zm_551 zm_642) rfl rfl rfl (by decide +kernel) ⟨Nat.le_trans (by decide) hR1, Nat.le_trans (by decide) hR2⟩) rfl rfl rfl hl.1 (Nat.le_of_ble_eq_true rfl) d_M_move_440 ⟨Nat.zero_le _, Nat.zero_le _⟩) (fun H locs hw => ?_)
    obtain ⟨hz, hf⟩ := zq_gs hf
    exact zr_zret G hw hr hlocks hz hf hQ d_M_move_443
  have K425 : ∀ (t0 : Int32) (t1 : Int32) (σ : zs_S) (H : Heap) (locs : List Loc) (ls : Array Slot), zf_M_move_425 F t0 t1 σ = some q → zs_I 1 D cA ad A s σ H locs → lv_has ls 5 [(0, .ref (ad 1))] → W p l e RR s m args below meth c H locs 0 0 QQ (F0 m 425 ls [.int t0, .int t1, .ref (ad 1)]) := by
    intro  t0 t1 σ H locs ls hf hw hl
    unfold zf_M_move_425 at hf
    obtain ⟨σ127, hc129, hf⟩ := zq_ds hf
    refine zr_cv hw (zr_runV (rest := []) (ci := 8) (o := 1) G hw [.int t1, .int t0] (zc_M_goOn hJ hc129) (cwV 2 hts (zs_gV zm_648 zm_649 zm_650 zm_551 zm_647) rfl rfl rfl (by decide +kernel) ⟨Nat.le_trans (by decide) hR1, Nat.le_trans (by decide) hR2⟩) rfl rfl rfl hl.1 (Nat.le_of_ble_eq_true rfl) d_M_move_425 ⟨Nat.zero_le _, Nat.zero_le _⟩) (fun H locs hw => ?_)
    refine lv_aload_n hx hb d_M_move_428 rfl (lv_at hl 0 rfl) ?_
    obtain ⟨r131, σ130, hc132, hf⟩ := zq_cs hf
    refine zr_ci hw (zr_runV (rest := []) (ci := 8) (o := 1) G hw [] (zc_M_reach hJ hc132) (cwV 0 hts (zs_gV zm_643 zm_644 zm_645 zm_551 zm_642) rfl rfl rfl (by decide +kernel) ⟨Nat.le_trans (by decide) hR1, Nat.le_trans (by decide) hR2⟩) rfl rfl rfl hl.1 (Nat.le_of_ble_eq_true rfl) d_M_move_429 ⟨Nat.zero_le _, Nat.zero_le _⟩) (fun H locs hw => ?_)
    obtain ⟨hz, hf⟩ := zq_gs hf
    exact zr_zret G hw hr hlocks hz hf hQ d_M_move_432
  have K343 : ∀ (k308 : Int32 → Int32 → Int32 → zs_S → Option (Int32 × zs_S)) (hk308 : ∀ (x1 : Int32) (x3 : Int32) (x4 : Int32) (σ : zs_S) (H : Heap) (locs : List Loc) (ls : Array Slot), k308 x1 x3 x4 σ = some q → zs_I 1 D cA ad A s σ H locs → lv_has ls 5 [(0, .ref (ad 1)), (1, .int x1), (3, .int x3), (4, .int x4)] → W p l e RR s m args below meth c H locs 0 0 QQ (F0 m 308 ls [])) (x1 : Int32) (x3 : Int32) (x4 : Int32) (σ : zs_S) (H : Heap) (locs : List Loc) (ls : Array Slot), zf_M_move_343 F k308 x1 x3 x4 σ = some q → zs_I 1 D cA ad A s σ H locs → lv_has ls 5 [(0, .ref (ad 1)), (1, .int x1), (3, .int x3), (4, .int x4)] → W p l e RR s m args below meth c H locs 0 0 QQ (F0 m 343 ls []) := by
    intro k308 hk308 x1 x3 x4 σ H locs ls hf hw hl
    unfold zf_M_move_343 at hf
    obtain ⟨v139, e_v139, hf⟩ := zq_ss hf
    refine lv_iinc (v := v139) hx hb d_M_move_343 hl (k := 3) rfl (zq_inc (k := 1) (by decide) e_v139) (by decide) rfl (fun ls hl => ?_)
    have hl : lv_has ls 5 [(4, .int v139), (0, .ref (ad 1)), (1, .int x1), (3, .int x3)] := hl
    refine lv_goto hx hb d_M_move_346 (tgt := 308) rfl ?_
    exact hk308 x1 x3 v139 σ H locs ls hf hw (lv_sub hl [1, 2, 3, 0] rfl)
  have K308 : ∀ (n : Nat) (x1 : Int32) (x3 : Int32) (x4 : Int32) (σ : zs_S) (H : Heap) (locs : List Loc) (ls : Array Slot), zf_M_move_308 F n x1 x3 x4 σ = some q → zs_I 1 D cA ad A s σ H locs → lv_has ls 5 [(0, .ref (ad 1)), (1, .int x1), (3, .int x3), (4, .int x4)] → W p l e RR s m args below meth c H locs 0 0 QQ (F0 m 308 ls []) := by
    intro  n
    induction n with
    | zero => intro x1 x3 x4 σ H locs ls hf hw hl; exact nomatch (show (none : Option (Int32 × zs_S)) = some q from hf)
    | succ n ih =>
      intro x1 x3 x4 σ H locs ls hf hw hl
      rw [zf_M_move_308] at hf
      refine lv_iload hx hb d_M_move_308 (lv_at hl 3 rfl) ?_
      refine lv_aload_n hx hb d_M_move_310 rfl (lv_at hl 0 rfl) ?_
      obtain ⟨q117, e_q117, h_q117, hf⟩ := zq_qs hf
      refine zr_get (ci := 8) G hw 1 2 zi_8 rfl rfl rfl (by decide) zm_616 (fun _ h => h) (v := .ref (ad q117)) (zs_fr rfl e_q117 h_q117) d_M_move_311 ?_
      obtain ⟨hs118, hf⟩ := zq_gs hf
      have hs118 := zq_ks hs118
      refine zr_get (ci := 9) G hw q117 5 zi_9 hs118 rfl rfl (by decide) zm_646 (fun _ h => h) (v := .int (zs_i σ q117 5)) rfl d_M_move_314 ?_
      refine lv_icmp_ge hx hb d_M_move_317 (tgt := 349) rfl (fun hc => ?_) (fun hc => ?_)
      · have hf := (if_pos hc).symm.trans hf
        refine lv_goto hx hb d_M_move_349 (tgt := 433) rfl ?_
        exact K433 x1 σ H locs ls hf hw (lv_sub hl [0, 1] rfl)
      · have hf := (if_neg hc).symm.trans hf
        refine lv_aload_n hx hb d_M_move_320 rfl (lv_at hl 0 rfl) ?_
        refine lv_iload hx hb d_M_move_321 (lv_at hl 3 rfl) ?_
        refine lv_iload_n hx hb d_M_move_323 rfl (lv_at hl 2 rfl) ?_
        obtain ⟨r120, σ119, hc121, hf⟩ := zq_cs hf
        refine zr_ci hw (zr_runV (rest := []) (ci := 8) (o := 1) G hw [.int x4, .int x3] (zc_M_waitsFor hJ hc121) (cwV 2 hts (zs_gV zm_652 zm_653 zm_654 zm_551 zm_651) rfl rfl rfl (by decide +kernel) ⟨Nat.le_trans (by decide) hR1, Nat.le_trans (by decide) hR2⟩) rfl rfl rfl hl.1 (Nat.le_of_ble_eq_true rfl) d_M_move_324 ⟨Nat.zero_le _, Nat.zero_le _⟩) (fun H locs hw => ?_)
        refine lv_if_eq hx hb d_M_move_327 (tgt := 343) rfl (fun hc => ?_) (fun hc => ?_)
        · have hf := (if_pos hc).symm.trans hf
          exact K343 (zf_M_move_308 F n) ih x1 x3 x4 σ119 H locs ls hf hw (lv_sub hl [0, 1, 2, 3] rfl)
        · have hf := (if_neg hc).symm.trans hf
          refine lv_aload_n hx hb d_M_move_330 rfl (lv_at hl 0 rfl) ?_
          refine zr_get (ci := 8) G hw 1 26 zi_8 rfl rfl rfl (by decide) zm_628 (fun _ h => h) (v := .ref (ad 65)) rfl d_M_move_331 ?_
          refine lv_iload hx hb d_M_move_334 (lv_at hl 3 rfl) ?_
          obtain ⟨r123, σ122, hc124, hf⟩ := zq_cs hf
          refine zr_ci hw (zr_runS (rest := [.ref (ad 65)]) G hw [.int x4] (zc_M_each hJ hc124) (va_cwS 1 hts (zs_gS zm_623 zm_624 zm_551 zm_622) rfl rfl rfl (by decide +kernel) ⟨Nat.le_trans (by decide) hR1, Nat.le_trans (by decide) hR2⟩) rfl hl.1 (Nat.le_of_ble_eq_true rfl) d_M_move_336 ⟨Nat.zero_le _, Nat.zero_le _⟩) (fun H locs hw => ?_)
          refine lv_iconst (v := 4) hx hb d_M_move_339 (by decide) ?_
          refine lv_iadd hx hb d_M_move_340 ?_
          refine lv_iconst (v := 2) hx hb d_M_move_341 (by decide) ?_
          obtain ⟨hi125, hf⟩ := zq_gs hf
          obtain ⟨σ126, e_σ126, hf⟩ := zq_ss hf
          refine zr_iast G hw 65 rfl rfl  hi125  d_M_move_342 (fun H locs hw => ?_)
          rw [← e_σ126] at hw
          exact K343 (zf_M_move_308 F n) ih x1 x3 x4 σ126 H locs ls hf hw (lv_sub hl [0, 1, 2, 3] rfl)
  have K218 : ∀ (x1 : Int32) (t0 : Int32) (σ : zs_S) (H : Heap) (locs : List Loc) (ls : Array Slot), zf_M_move_218 F x1 t0 σ = some q → zs_I 1 D cA ad A s σ H locs → lv_has ls 5 [(0, .ref (ad 1)), (1, .int x1)] → W p l e RR s m args below meth c H locs 0 0 QQ (F0 m 218 ls [.int t0, .ref (ad 65)]) := by
    intro  x1 t0 σ H locs ls hf hw hl
    unfold zf_M_move_218 at hf
    refine lv_aload_n hx hb d_M_move_218 rfl (lv_at hl 0 rfl) ?_
    refine lv_aload_n hx hb d_M_move_219 rfl (lv_at hl 0 rfl) ?_
    refine zr_get (ci := 8) G hw 1 29 zi_8 rfl rfl rfl (by decide) zm_638 (fun _ h => h) (v := .int (zs_i σ 1 29)) rfl d_M_move_220 ?_
    refine lv_aload_n hx hb d_M_move_223 rfl (lv_at hl 0 rfl) ?_
    obtain ⟨q107, e_q107, h_q107, hf⟩ := zq_qs hf
    refine zr_get (ci := 8) G hw 1 2 zi_8 rfl rfl rfl (by decide) zm_616 (fun _ h => h) (v := .ref (ad q107)) (zs_fr rfl e_q107 h_q107) d_M_move_224 ?_
    obtain ⟨hs108, hf⟩ := zq_gs hf
    have hs108 := zq_ks hs108
    obtain ⟨q109, e_q109, h_q109, hf⟩ := zq_qs hf
    refine zr_get (ci := 9) G hw q107 9 zi_9 hs108 rfl rfl (by decide) zm_663 (fun _ h => h) (v := .ref (ad q109)) (zs_fs rfl e_q109 h_q109) d_M_move_227 ?_
    refine lv_iload_n hx hb d_M_move_230 rfl (lv_at hl 1 rfl) ?_
    obtain ⟨hs110, hf⟩ := zq_gs hf
    have hs110 := zq_ks hs110
    obtain ⟨hi111, hf⟩ := zq_gs hf
    refine zr_iald G hw q109 hs110 rfl hi111 d_M_move_231 ?_
    obtain ⟨r113, σ112, hc114, hf⟩ := zq_cs hf
    refine zr_ci hw (zr_runV (rest := [.int t0, .ref (ad 65)]) (ci := 8) (o := 1) G hw [.int (zs_i σ 1 29), .int (zs_i σ q109 (x1).toNatClampNeg)] (zc_M_reckon hJ hc114) (cwV 2 hts (zs_gV zm_665 zm_666 zm_667 zm_551 zm_664) rfl rfl rfl (by decide +kernel) ⟨Nat.le_trans (by decide) hR1, Nat.le_trans (by decide) hR2⟩) rfl rfl rfl hl.1 (Nat.le_of_ble_eq_true rfl) d_M_move_232 ⟨Nat.zero_le _, Nat.zero_le _⟩) (fun H locs hw => ?_)
    obtain ⟨hi115, hf⟩ := zq_gs hf
    obtain ⟨σ116, e_σ116, hf⟩ := zq_ss hf
    refine zr_iast G hw 65 rfl rfl  hi115  d_M_move_235 (fun H locs hw => ?_)
    rw [← e_σ116] at hw
    refine lv_goto hx hb d_M_move_236 (tgt := 433) rfl ?_
    exact K433 x1 σ116 H locs ls hf hw (lv_sub hl [0, 1] rfl)
  have K138 : ∀ (x1 : Int32) (x2 : Int32) (x3 : Int32) (σ : zs_S) (H : Heap) (locs : List Loc) (ls : Array Slot), zf_M_move_138 F x1 x2 x3 σ = some q → zs_I 1 D cA ad A s σ H locs → lv_has ls 5 [(0, .ref (ad 1)), (1, .int x1), (2, .int x2), (3, .int x3)] → W p l e RR s m args below meth c H locs 0 0 QQ (F0 m 138 ls []) := by
    intro  x1 x2 x3 σ H locs ls hf hw hl
    unfold zf_M_move_138 at hf
    refine lv_iload_n hx hb d_M_move_138 rfl (lv_at hl 2 rfl) ?_
    by_cases hc0 : x2 = 0
    · have hf := (if_pos hc0).symm.trans hf
      refine lv_tableIn hx hb d_M_move_139 (tgt := 192) (by rw [hc0]; decide) (by rw [hc0]; decide) (by rw [hc0]; rfl) rfl ?_
      refine lv_aload_n hx hb d_M_move_192 rfl (lv_at hl 0 rfl) ?_
      refine zr_get (ci := 8) G hw 1 26 zi_8 rfl rfl rfl (by decide) zm_628 (fun _ h => h) (v := .ref (ad 65)) rfl d_M_move_193 ?_
      refine lv_iload_n hx hb d_M_move_196 rfl (lv_at hl 3 rfl) ?_
      refine lv_bipush (v := 8) hx hb d_M_move_197 (by decide) ?_
      refine lv_icmp_ge hx hb d_M_move_199 (tgt := 206) rfl (fun hc => ?_) (fun hc => ?_)
      · have hf := (if_pos hc).symm.trans hf
        refine lv_aload_n hx hb d_M_move_206 rfl (lv_at hl 0 rfl) ?_
        refine zr_get (ci := 8) G hw 1 29 zi_8 rfl rfl rfl (by decide) zm_638 (fun _ h => h) (v := .int (zs_i σ 1 29)) rfl d_M_move_207 ?_
        obtain ⟨r45, σ44, hc46, hf⟩ := zq_cs hf
        refine zr_ci hw (zr_runS (rest := [.ref (ad 65)]) G hw [.int (zs_i σ 1 29)] (zc_M_each hJ hc46) (va_cwS 1 hts (zs_gS zm_623 zm_624 zm_551 zm_622) rfl rfl rfl (by decide +kernel) ⟨Nat.le_trans (by decide) hR1, Nat.le_trans (by decide) hR2⟩) rfl hl.1 (Nat.le_of_ble_eq_true rfl) d_M_move_210 ⟨Nat.zero_le _, Nat.zero_le _⟩) (fun H locs hw => ?_)
        refine lv_iload_n hx hb d_M_move_213 rfl (lv_at hl 3 rfl) ?_
        refine lv_iadd hx hb d_M_move_214 ?_
        refine lv_bipush (v := 8) hx hb d_M_move_215 (by decide) ?_
        refine lv_isub hx hb d_M_move_217 ?_
        exact K218 x1 ((r45 + x3) - 8) σ44 H locs ls hf hw (lv_sub hl [0, 1] rfl)
      · have hf := (if_neg hc).symm.trans hf
        refine lv_iload_n hx hb d_M_move_202 rfl (lv_at hl 3 rfl) ?_
        refine lv_goto hx hb d_M_move_203 (tgt := 218) rfl ?_
        exact K218 x1 x3 σ H locs ls hf hw (lv_sub hl [0, 1] rfl)
    have hf := (if_neg hc0).symm.trans hf
    by_cases hc1 : x2 = 1
    · have hf := (if_pos hc1).symm.trans hf
      refine lv_tableIn hx hb d_M_move_139 (tgt := 239) (by rw [hc1]; decide) (by rw [hc1]; decide) (by rw [hc1]; rfl) rfl ?_
      refine lv_aload_n hx hb d_M_move_239 rfl (lv_at hl 0 rfl) ?_
      refine zr_get (ci := 8) G hw 1 26 zi_8 rfl rfl rfl (by decide) zm_628 (fun _ h => h) (v := .ref (ad 65)) rfl d_M_move_240 ?_
      refine lv_bipush (v := 8) hx hb d_M_move_243 (by decide) ?_
      refine lv_iload_n hx hb d_M_move_245 rfl (lv_at hl 3 rfl) ?_
      refine lv_iadd hx hb d_M_move_246 ?_
      refine lv_aload_n hx hb d_M_move_247 rfl (lv_at hl 0 rfl) ?_
      refine zr_get (ci := 8) G hw 1 29 zi_8 rfl rfl rfl (by decide) zm_638 (fun _ h => h) (v := .int (zs_i σ 1 29)) rfl d_M_move_248 ?_
      obtain ⟨hi47, hf⟩ := zq_gs hf
      obtain ⟨σ48, e_σ48, hf⟩ := zq_ss hf
      refine zr_iast G hw 65 rfl rfl  hi47  d_M_move_251 (fun H locs hw => ?_)
      rw [← e_σ48] at hw
      refine lv_goto hx hb d_M_move_252 (tgt := 433) rfl ?_
      exact K433 x1 σ48 H locs ls hf hw (lv_sub hl [0, 1] rfl)
    have hf := (if_neg hc1).symm.trans hf
    by_cases hc2 : x2 = 2
    · have hf := (if_pos hc2).symm.trans hf
      refine lv_tableIn hx hb d_M_move_139 (tgt := 255) (by rw [hc2]; decide) (by rw [hc2]; decide) (by rw [hc2]; rfl) rfl ?_
      refine lv_aload_n hx hb d_M_move_255 rfl (lv_at hl 0 rfl) ?_
      refine zr_get (ci := 8) G hw 1 26 zi_8 rfl rfl rfl (by decide) zm_628 (fun _ h => h) (v := .ref (ad 65)) rfl d_M_move_256 ?_
      refine lv_bipush (v := 8) hx hb d_M_move_259 (by decide) ?_
      refine lv_iload_n hx hb d_M_move_261 rfl (lv_at hl 3 rfl) ?_
      refine lv_iadd hx hb d_M_move_262 ?_
      refine lv_iconst (v := (-1)) hx hb d_M_move_263 (by decide) ?_
      obtain ⟨hi49, hf⟩ := zq_gs hf
      obtain ⟨σ50, e_σ50, hf⟩ := zq_ss hf
      refine zr_iast G hw 65 rfl rfl  hi49  d_M_move_264 (fun H locs hw => ?_)
      rw [← e_σ50] at hw
      refine lv_goto hx hb d_M_move_265 (tgt := 433) rfl ?_
      exact K433 x1 σ50 H locs ls hf hw (lv_sub hl [0, 1] rfl)
    have hf := (if_neg hc2).symm.trans hf
    by_cases hc3 : x2 = 3
    · have hf := (if_pos hc3).symm.trans hf
      refine lv_tableIn hx hb d_M_move_139 (tgt := 268) (by rw [hc3]; decide) (by rw [hc3]; decide) (by rw [hc3]; rfl) rfl ?_
      refine lv_aload_n hx hb d_M_move_268 rfl (lv_at hl 0 rfl) ?_
      refine zr_get (ci := 8) G hw 1 26 zi_8 rfl rfl rfl (by decide) zm_628 (fun _ h => h) (v := .ref (ad 65)) rfl d_M_move_269 ?_
      refine lv_bipush (v := 8) hx hb d_M_move_272 (by decide) ?_
      refine lv_iload_n hx hb d_M_move_274 rfl (lv_at hl 3 rfl) ?_
      refine lv_iadd hx hb d_M_move_275 ?_
      refine lv_iconst (v := (-1)) hx hb d_M_move_276 (by decide) ?_
      obtain ⟨hi51, hf⟩ := zq_gs hf
      obtain ⟨σ52, e_σ52, hf⟩ := zq_ss hf
      refine zr_iast G hw 65 rfl rfl  hi51  d_M_move_277 (fun H locs hw => ?_)
      rw [← e_σ52] at hw
      refine lv_aload_n hx hb d_M_move_278 rfl (lv_at hl 0 rfl) ?_
      refine zr_get (ci := 8) G hw 1 26 zi_8 rfl rfl rfl (by decide) zm_628 (fun _ h => h) (v := .ref (ad 65)) rfl d_M_move_279 ?_
      refine lv_aload_n hx hb d_M_move_282 rfl (lv_at hl 0 rfl) ?_
      refine zr_get (ci := 8) G hw 1 29 zi_8 rfl rfl rfl (by decide) zm_638 (fun _ h => h) (v := .int (zs_i σ52 1 29)) rfl d_M_move_283 ?_
      obtain ⟨r54, σ53, hc55, hf⟩ := zq_cs hf
      refine zr_ci hw (zr_runS (rest := [.ref (ad 65)]) G hw [.int (zs_i σ52 1 29)] (zc_M_each hJ hc55) (va_cwS 1 hts (zs_gS zm_623 zm_624 zm_551 zm_622) rfl rfl rfl (by decide +kernel) ⟨Nat.le_trans (by decide) hR1, Nat.le_trans (by decide) hR2⟩) rfl hl.1 (Nat.le_of_ble_eq_true rfl) d_M_move_286 ⟨Nat.zero_le _, Nat.zero_le _⟩) (fun H locs hw => ?_)
      refine lv_iconst (v := 4) hx hb d_M_move_289 (by decide) ?_
      refine lv_iadd hx hb d_M_move_290 ?_
      refine lv_iconst (v := 1) hx hb d_M_move_291 (by decide) ?_
      obtain ⟨hi56, hf⟩ := zq_gs hf
      obtain ⟨σ57, e_σ57, hf⟩ := zq_ss hf
      refine zr_iast G hw 65 rfl rfl  hi56  d_M_move_292 (fun H locs hw => ?_)
      rw [← e_σ57] at hw
      refine lv_aload_n hx hb d_M_move_293 rfl (lv_at hl 0 rfl) ?_
      obtain ⟨r59, σ58, hc60, hf⟩ := zq_cs hf
      refine zr_ci hw (zr_runV (rest := []) (ci := 8) (o := 1) G hw [] (zc_M_reach hJ hc60) (cwV 0 hts (zs_gV zm_643 zm_644 zm_645 zm_551 zm_642) rfl rfl rfl (by decide +kernel) ⟨Nat.le_trans (by decide) hR1, Nat.le_trans (by decide) hR2⟩) rfl rfl rfl hl.1 (Nat.le_of_ble_eq_true rfl) d_M_move_294 ⟨Nat.zero_le _, Nat.zero_le _⟩) (fun H locs hw => ?_)
      obtain ⟨hz, hf⟩ := zq_gs hf
      exact zr_zret G hw hr hlocks hz hf hQ d_M_move_297
    have hf := (if_neg hc3).symm.trans hf
    by_cases hc4 : x2 = 4
    · have hf := (if_pos hc4).symm.trans hf
      refine lv_tableIn hx hb d_M_move_139 (tgt := 298) (by rw [hc4]; decide) (by rw [hc4]; decide) (by rw [hc4]; rfl) rfl ?_
      refine lv_aload_n hx hb d_M_move_298 rfl (lv_at hl 0 rfl) ?_
      refine lv_iload_n hx hb d_M_move_299 rfl (lv_at hl 1 rfl) ?_
      refine lv_iload_n hx hb d_M_move_300 rfl (lv_at hl 3 rfl) ?_
      obtain ⟨r62, σ61, hc63, hf⟩ := zq_cs hf
      refine zr_ci hw (zr_runV (rest := []) (ci := 8) (o := 1) G hw [.int x1, .int x3] (zc_M_wake hJ hc63) (cwV 2 hts (zs_gV zm_660 zm_661 zm_662 zm_551 zm_659) rfl rfl rfl (by decide +kernel) ⟨Nat.le_trans (by decide) hR1, Nat.le_trans (by decide) hR2⟩) rfl rfl rfl hl.1 (Nat.le_of_ble_eq_true rfl) d_M_move_301 ⟨Nat.zero_le _, Nat.zero_le _⟩) (fun H locs hw => ?_)
      obtain ⟨hz, hf⟩ := zq_gs hf
      exact zr_zret G hw hr hlocks hz hf hQ d_M_move_304
    have hf := (if_neg hc4).symm.trans hf
    by_cases hc5 : x2 = 5
    · have hf := (if_pos hc5).symm.trans hf
      refine lv_tableIn hx hb d_M_move_139 (tgt := 305) (by rw [hc5]; decide) (by rw [hc5]; decide) (by rw [hc5]; rfl) rfl ?_
      refine lv_iconst (v := 0) hx hb d_M_move_305 (by decide) ?_
      refine lv_istore hx hb d_M_move_306 hl (by decide) rfl (fun ls hl => ?_)
      have hl : lv_has ls 5 [(4, .int 0), (0, .ref (ad 1)), (1, .int x1), (2, .int x2), (3, .int x3)] := hl
      exact K308 F x1 x3 0 σ H locs ls hf hw (lv_sub hl [1, 2, 4, 0] rfl)
    have hf := (if_neg hc5).symm.trans hf
    by_cases hc6 : x2 = 6
    · have hf := (if_pos hc6).symm.trans hf
      refine lv_tableIn hx hb d_M_move_139 (tgt := 352) (by rw [hc6]; decide) (by rw [hc6]; decide) (by rw [hc6]; rfl) rfl ?_
      refine lv_aload_n hx hb d_M_move_352 rfl (lv_at hl 0 rfl) ?_
      refine lv_aload_n hx hb d_M_move_353 rfl (lv_at hl 0 rfl) ?_
      refine zr_get (ci := 8) G hw 1 29 zi_8 rfl rfl rfl (by decide) zm_638 (fun _ h => h) (v := .int (zs_i σ 1 29)) rfl d_M_move_354 ?_
      refine lv_aload_n hx hb d_M_move_357 rfl (lv_at hl 0 rfl) ?_
      obtain ⟨q64, e_q64, h_q64, hf⟩ := zq_qs hf
      refine zr_get (ci := 8) G hw 1 2 zi_8 rfl rfl rfl (by decide) zm_616 (fun _ h => h) (v := .ref (ad q64)) (zs_fr rfl e_q64 h_q64) d_M_move_358 ?_
      obtain ⟨hs65, hf⟩ := zq_gs hf
      have hs65 := zq_ks hs65
      obtain ⟨q66, e_q66, h_q66, hf⟩ := zq_qs hf
      refine zr_get (ci := 9) G hw q64 9 zi_9 hs65 rfl rfl (by decide) zm_663 (fun _ h => h) (v := .ref (ad q66)) (zs_fs rfl e_q66 h_q66) d_M_move_361 ?_
      refine lv_iload_n hx hb d_M_move_364 rfl (lv_at hl 1 rfl) ?_
      obtain ⟨hs67, hf⟩ := zq_gs hf
      have hs67 := zq_ks hs67
      obtain ⟨hi68, hf⟩ := zq_gs hf
      refine zr_iald G hw q66 hs67 rfl hi68 d_M_move_365 ?_
      obtain ⟨r70, σ69, hc71, hf⟩ := zq_cs hf
      refine zr_ci hw (zr_runV (rest := []) (ci := 8) (o := 1) G hw [.int (zs_i σ 1 29), .int (zs_i σ q66 (x1).toNatClampNeg)] (zc_M_reckon hJ hc71) (cwV 2 hts (zs_gV zm_665 zm_666 zm_667 zm_551 zm_664) rfl rfl rfl (by decide +kernel) ⟨Nat.le_trans (by decide) hR1, Nat.le_trans (by decide) hR2⟩) rfl rfl rfl hl.1 (Nat.le_of_ble_eq_true rfl) d_M_move_366 ⟨Nat.zero_le _, Nat.zero_le _⟩) (fun H locs hw => ?_)
      refine lv_if_ne hx hb d_M_move_369 (tgt := 433) rfl (fun hc => ?_) (fun hc => ?_)
      · have hf := (if_neg hc).symm.trans hf
        exact K433 x1 σ69 H locs ls hf hw (lv_sub hl [0, 1] rfl)
      · have hf := (if_pos hc).symm.trans hf
        refine lv_aload_n hx hb d_M_move_372 rfl (lv_at hl 0 rfl) ?_
        refine lv_iconst (v := 1) hx hb d_M_move_373 (by decide) ?_
        obtain ⟨r73, σ72, hc74, hf⟩ := zq_cs hf
        refine zr_ci hw (zr_runV (rest := []) (ci := 8) (o := 1) G hw [.int 1] (zc_M_wrong hJ hc74) (cwV 1 hts (zs_gV zm_656 zm_657 zm_658 zm_551 zm_655) rfl rfl rfl (by decide +kernel) ⟨Nat.le_trans (by decide) hR1, Nat.le_trans (by decide) hR2⟩) rfl rfl rfl hl.1 (Nat.le_of_ble_eq_true rfl) d_M_move_374 ⟨Nat.zero_le _, Nat.zero_le _⟩) (fun H locs hw => ?_)
        obtain ⟨hz, hf⟩ := zq_gs hf
        exact zr_zret G hw hr hlocks hz hf hQ d_M_move_377
    have hf := (if_neg hc6).symm.trans hf
    by_cases hc7 : x2 = 7
    · have hf := (if_pos hc7).symm.trans hf
      refine lv_tableIn hx hb d_M_move_139 (tgt := 398) (by rw [hc7]; decide) (by rw [hc7]; decide) (by rw [hc7]; rfl) rfl ?_
      refine lv_aload_n hx hb d_M_move_398 rfl (lv_at hl 0 rfl) ?_
      refine lv_iload_n hx hb d_M_move_399 rfl (lv_at hl 1 rfl) ?_
      refine lv_aload_n hx hb d_M_move_400 rfl (lv_at hl 0 rfl) ?_
      refine lv_aload_n hx hb d_M_move_401 rfl (lv_at hl 0 rfl) ?_
      refine zr_get (ci := 8) G hw 1 29 zi_8 rfl rfl rfl (by decide) zm_638 (fun _ h => h) (v := .int (zs_i σ 1 29)) rfl d_M_move_402 ?_
      refine lv_aload_n hx hb d_M_move_405 rfl (lv_at hl 0 rfl) ?_
      obtain ⟨q75, e_q75, h_q75, hf⟩ := zq_qs hf
      refine zr_get (ci := 8) G hw 1 2 zi_8 rfl rfl rfl (by decide) zm_616 (fun _ h => h) (v := .ref (ad q75)) (zs_fr rfl e_q75 h_q75) d_M_move_406 ?_
      obtain ⟨hs76, hf⟩ := zq_gs hf
      have hs76 := zq_ks hs76
      obtain ⟨q77, e_q77, h_q77, hf⟩ := zq_qs hf
      refine zr_get (ci := 9) G hw q75 9 zi_9 hs76 rfl rfl (by decide) zm_663 (fun _ h => h) (v := .ref (ad q77)) (zs_fs rfl e_q77 h_q77) d_M_move_409 ?_
      refine lv_iload_n hx hb d_M_move_412 rfl (lv_at hl 1 rfl) ?_
      obtain ⟨hs78, hf⟩ := zq_gs hf
      have hs78 := zq_ks hs78
      obtain ⟨hi79, hf⟩ := zq_gs hf
      refine zr_iald G hw q77 hs78 rfl hi79 d_M_move_413 ?_
      obtain ⟨r81, σ80, hc82, hf⟩ := zq_cs hf
      refine zr_ci hw (zr_runV (rest := [.int x1, .ref (ad 1)]) (ci := 8) (o := 1) G hw [.int (zs_i σ 1 29), .int (zs_i σ q77 (x1).toNatClampNeg)] (zc_M_reckon hJ hc82) (cwV 2 hts (zs_gV zm_665 zm_666 zm_667 zm_551 zm_664) rfl rfl rfl (by decide +kernel) ⟨Nat.le_trans (by decide) hR1, Nat.le_trans (by decide) hR2⟩) rfl rfl rfl hl.1 (Nat.le_of_ble_eq_true rfl) d_M_move_414 ⟨Nat.zero_le _, Nat.zero_le _⟩) (fun H locs hw => ?_)
      refine lv_if_eq hx hb d_M_move_417 (tgt := 424) rfl (fun hc => ?_) (fun hc => ?_)
      · have hf := (if_pos hc).symm.trans hf
        refine lv_iconst (v := 2) hx hb d_M_move_424 (by decide) ?_
        exact K425 2 x1 σ80 H locs ls hf hw (lv_sub hl [0] rfl)
      · have hf := (if_neg hc).symm.trans hf
        refine lv_iconst (v := 1) hx hb d_M_move_420 (by decide) ?_
        refine lv_goto hx hb d_M_move_421 (tgt := 425) rfl ?_
        exact K425 1 x1 σ80 H locs ls hf hw (lv_sub hl [0] rfl)
    have hf := (if_neg hc7).symm.trans hf
    by_cases hc8 : x2 = 8
    · have hf := (if_pos hc8).symm.trans hf
      refine lv_tableIn hx hb d_M_move_139 (tgt := 398) (by rw [hc8]; decide) (by rw [hc8]; decide) (by rw [hc8]; rfl) rfl ?_
      refine lv_aload_n hx hb d_M_move_398 rfl (lv_at hl 0 rfl) ?_
      refine lv_iload_n hx hb d_M_move_399 rfl (lv_at hl 1 rfl) ?_
      refine lv_aload_n hx hb d_M_move_400 rfl (lv_at hl 0 rfl) ?_
      refine lv_aload_n hx hb d_M_move_401 rfl (lv_at hl 0 rfl) ?_
      refine zr_get (ci := 8) G hw 1 29 zi_8 rfl rfl rfl (by decide) zm_638 (fun _ h => h) (v := .int (zs_i σ 1 29)) rfl d_M_move_402 ?_
      refine lv_aload_n hx hb d_M_move_405 rfl (lv_at hl 0 rfl) ?_
      obtain ⟨q83, e_q83, h_q83, hf⟩ := zq_qs hf
      refine zr_get (ci := 8) G hw 1 2 zi_8 rfl rfl rfl (by decide) zm_616 (fun _ h => h) (v := .ref (ad q83)) (zs_fr rfl e_q83 h_q83) d_M_move_406 ?_
      obtain ⟨hs84, hf⟩ := zq_gs hf
      have hs84 := zq_ks hs84
      obtain ⟨q85, e_q85, h_q85, hf⟩ := zq_qs hf
      refine zr_get (ci := 9) G hw q83 9 zi_9 hs84 rfl rfl (by decide) zm_663 (fun _ h => h) (v := .ref (ad q85)) (zs_fs rfl e_q85 h_q85) d_M_move_409 ?_
      refine lv_iload_n hx hb d_M_move_412 rfl (lv_at hl 1 rfl) ?_
      obtain ⟨hs86, hf⟩ := zq_gs hf
      have hs86 := zq_ks hs86
      obtain ⟨hi87, hf⟩ := zq_gs hf
      refine zr_iald G hw q85 hs86 rfl hi87 d_M_move_413 ?_
      obtain ⟨r89, σ88, hc90, hf⟩ := zq_cs hf
      refine zr_ci hw (zr_runV (rest := [.int x1, .ref (ad 1)]) (ci := 8) (o := 1) G hw [.int (zs_i σ 1 29), .int (zs_i σ q85 (x1).toNatClampNeg)] (zc_M_reckon hJ hc90) (cwV 2 hts (zs_gV zm_665 zm_666 zm_667 zm_551 zm_664) rfl rfl rfl (by decide +kernel) ⟨Nat.le_trans (by decide) hR1, Nat.le_trans (by decide) hR2⟩) rfl rfl rfl hl.1 (Nat.le_of_ble_eq_true rfl) d_M_move_414 ⟨Nat.zero_le _, Nat.zero_le _⟩) (fun H locs hw => ?_)
      refine lv_if_eq hx hb d_M_move_417 (tgt := 424) rfl (fun hc => ?_) (fun hc => ?_)
      · have hf := (if_pos hc).symm.trans hf
        refine lv_iconst (v := 2) hx hb d_M_move_424 (by decide) ?_
        exact K425 2 x1 σ88 H locs ls hf hw (lv_sub hl [0] rfl)
      · have hf := (if_neg hc).symm.trans hf
        refine lv_iconst (v := 1) hx hb d_M_move_420 (by decide) ?_
        refine lv_goto hx hb d_M_move_421 (tgt := 425) rfl ?_
        exact K425 1 x1 σ88 H locs ls hf hw (lv_sub hl [0] rfl)
    have hf := (if_neg hc8).symm.trans hf
    by_cases hc9 : x2 = 9
    · have hf := (if_pos hc9).symm.trans hf
      refine lv_tableIn hx hb d_M_move_139 (tgt := 378) (by rw [hc9]; decide) (by rw [hc9]; decide) (by rw [hc9]; rfl) rfl ?_
      refine lv_aload_n hx hb d_M_move_378 rfl (lv_at hl 0 rfl) ?_
      refine zr_get (ci := 8) G hw 1 26 zi_8 rfl rfl rfl (by decide) zm_628 (fun _ h => h) (v := .ref (ad 65)) rfl d_M_move_379 ?_
      refine lv_aload_n hx hb d_M_move_382 rfl (lv_at hl 0 rfl) ?_
      refine zr_get (ci := 8) G hw 1 29 zi_8 rfl rfl rfl (by decide) zm_638 (fun _ h => h) (v := .int (zs_i σ 1 29)) rfl d_M_move_383 ?_
      obtain ⟨r92, σ91, hc93, hf⟩ := zq_cs hf
      refine zr_ci hw (zr_runS (rest := [.ref (ad 65)]) G hw [.int (zs_i σ 1 29)] (zc_M_each hJ hc93) (va_cwS 1 hts (zs_gS zm_623 zm_624 zm_551 zm_622) rfl rfl rfl (by decide +kernel) ⟨Nat.le_trans (by decide) hR1, Nat.le_trans (by decide) hR2⟩) rfl hl.1 (Nat.le_of_ble_eq_true rfl) d_M_move_386 ⟨Nat.zero_le _, Nat.zero_le _⟩) (fun H locs hw => ?_)
      refine lv_iconst (v := 3) hx hb d_M_move_389 (by decide) ?_
      refine lv_iadd hx hb d_M_move_390 ?_
      refine lv_iconst (v := (-1)) hx hb d_M_move_391 (by decide) ?_
      obtain ⟨hi94, hf⟩ := zq_gs hf
      obtain ⟨σ95, e_σ95, hf⟩ := zq_ss hf
      refine zr_iast G hw 65 rfl rfl  hi94  d_M_move_392 (fun H locs hw => ?_)
      rw [← e_σ95] at hw
      refine lv_aload_n hx hb d_M_move_393 rfl (lv_at hl 0 rfl) ?_
      obtain ⟨r97, σ96, hc98, hf⟩ := zq_cs hf
      refine zr_ci hw (zr_runV (rest := []) (ci := 8) (o := 1) G hw [] (zc_M_reach hJ hc98) (cwV 0 hts (zs_gV zm_643 zm_644 zm_645 zm_551 zm_642) rfl rfl rfl (by decide +kernel) ⟨Nat.le_trans (by decide) hR1, Nat.le_trans (by decide) hR2⟩) rfl rfl rfl hl.1 (Nat.le_of_ble_eq_true rfl) d_M_move_394 ⟨Nat.zero_le _, Nat.zero_le _⟩) (fun H locs hw => ?_)
      obtain ⟨hz, hf⟩ := zq_gs hf
      exact zr_zret G hw hr hlocks hz hf hQ d_M_move_397
    have hf := (if_neg hc9).symm.trans hf
    refine lv_tableOut hx hb d_M_move_139 (tgt := 398) (by have g0 := zq_o1 (lo := 0) (by decide) hc0; have g1 := zq_o1 (lo := 1) (by decide) hc1; have g2 := zq_o1 (lo := 2) (by decide) hc2; have g3 := zq_o1 (lo := 3) (by decide) hc3; have g4 := zq_o1 (lo := 4) (by decide) hc4; have g5 := zq_o1 (lo := 5) (by decide) hc5; have g6 := zq_o1 (lo := 6) (by decide) hc6; have g7 := zq_o1 (lo := 7) (by decide) hc7; have g8 := zq_o1 (lo := 8) (by decide) hc8; have g9 := zq_o1 (lo := 9) (by decide) hc9; omega) rfl ?_
    refine lv_aload_n hx hb d_M_move_398 rfl (lv_at hl 0 rfl) ?_
    refine lv_iload_n hx hb d_M_move_399 rfl (lv_at hl 1 rfl) ?_
    refine lv_aload_n hx hb d_M_move_400 rfl (lv_at hl 0 rfl) ?_
    refine lv_aload_n hx hb d_M_move_401 rfl (lv_at hl 0 rfl) ?_
    refine zr_get (ci := 8) G hw 1 29 zi_8 rfl rfl rfl (by decide) zm_638 (fun _ h => h) (v := .int (zs_i σ 1 29)) rfl d_M_move_402 ?_
    refine lv_aload_n hx hb d_M_move_405 rfl (lv_at hl 0 rfl) ?_
    obtain ⟨q99, e_q99, h_q99, hf⟩ := zq_qs hf
    refine zr_get (ci := 8) G hw 1 2 zi_8 rfl rfl rfl (by decide) zm_616 (fun _ h => h) (v := .ref (ad q99)) (zs_fr rfl e_q99 h_q99) d_M_move_406 ?_
    obtain ⟨hs100, hf⟩ := zq_gs hf
    have hs100 := zq_ks hs100
    obtain ⟨q101, e_q101, h_q101, hf⟩ := zq_qs hf
    refine zr_get (ci := 9) G hw q99 9 zi_9 hs100 rfl rfl (by decide) zm_663 (fun _ h => h) (v := .ref (ad q101)) (zs_fs rfl e_q101 h_q101) d_M_move_409 ?_
    refine lv_iload_n hx hb d_M_move_412 rfl (lv_at hl 1 rfl) ?_
    obtain ⟨hs102, hf⟩ := zq_gs hf
    have hs102 := zq_ks hs102
    obtain ⟨hi103, hf⟩ := zq_gs hf
    refine zr_iald G hw q101 hs102 rfl hi103 d_M_move_413 ?_
    obtain ⟨r105, σ104, hc106, hf⟩ := zq_cs hf
    refine zr_ci hw (zr_runV (rest := [.int x1, .ref (ad 1)]) (ci := 8) (o := 1) G hw [.int (zs_i σ 1 29), .int (zs_i σ q101 (x1).toNatClampNeg)] (zc_M_reckon hJ hc106) (cwV 2 hts (zs_gV zm_665 zm_666 zm_667 zm_551 zm_664) rfl rfl rfl (by decide +kernel) ⟨Nat.le_trans (by decide) hR1, Nat.le_trans (by decide) hR2⟩) rfl rfl rfl hl.1 (Nat.le_of_ble_eq_true rfl) d_M_move_414 ⟨Nat.zero_le _, Nat.zero_le _⟩) (fun H locs hw => ?_)
    refine lv_if_eq hx hb d_M_move_417 (tgt := 424) rfl (fun hc => ?_) (fun hc => ?_)
    · have hf := (if_pos hc).symm.trans hf
      refine lv_iconst (v := 2) hx hb d_M_move_424 (by decide) ?_
      exact K425 2 x1 σ104 H locs ls hf hw (lv_sub hl [0] rfl)
    · have hf := (if_neg hc).symm.trans hf
      refine lv_iconst (v := 1) hx hb d_M_move_420 (by decide) ?_
      refine lv_goto hx hb d_M_move_421 (tgt := 425) rfl ?_
      exact K425 1 x1 σ104 H locs ls hf hw (lv_sub hl [0] rfl)
  unfold zf_M_move at hf
  refine lv_aload_n hx hb d_M_move_0 rfl (lv_at hl 0 rfl) ?_
  refine zr_get (ci := 8) G hw 1 25 zi_8 rfl rfl rfl (by decide) zm_621 (fun _ h => h) (v := .ref (ad 64)) rfl d_M_move_1 ?_
  refine lv_aload_n hx hb d_M_move_4 rfl (lv_at hl 0 rfl) ?_
  refine zr_get (ci := 8) G hw 1 29 zi_8 rfl rfl rfl (by decide) zm_638 (fun _ h => h) (v := .int (zs_i σ 1 29)) rfl d_M_move_5 ?_
  obtain ⟨r2, σ1, hc3, hf⟩ := zq_cs hf
  refine zr_ci hw (zr_runS (rest := [.ref (ad 64)]) G hw [.int (zs_i σ 1 29)] (zc_M_each hJ hc3) (va_cwS 1 hts (zs_gS zm_623 zm_624 zm_551 zm_622) rfl rfl rfl (by decide +kernel) ⟨Nat.le_trans (by decide) hR1, Nat.le_trans (by decide) hR2⟩) rfl hl.1 (Nat.le_of_ble_eq_true rfl) d_M_move_8 ⟨Nat.zero_le _, Nat.zero_le _⟩) (fun H locs hw => ?_)
  refine lv_iconst (v := 3) hx hb d_M_move_11 (by decide) ?_
  refine lv_iadd hx hb d_M_move_12 ?_
  obtain ⟨hi4, hf⟩ := zq_gs hf
  refine zr_iald G hw 64 rfl rfl hi4 d_M_move_13 ?_
  refine lv_topi (fun v5 e_v5 => ?_)
  have hf := zq_vs e_v5 hf
  refine lv_istore_n hx hb d_M_move_14 rfl hl (by decide) rfl (fun ls hl => ?_)
  have hl : lv_has ls 5 [(1, .int v5), (0, .ref (ad 1))] := hl
  refine lv_aload_n hx hb d_M_move_15 rfl (lv_at hl 1 rfl) ?_
  obtain ⟨q6, e_q6, h_q6, hf⟩ := zq_qs hf
  refine zr_get (ci := 8) G hw 1 2 zi_8 rfl rfl rfl (by decide) zm_616 (fun _ h => h) (v := .ref (ad q6)) (zs_fr rfl e_q6 h_q6) d_M_move_16 ?_
  obtain ⟨hs7, hf⟩ := zq_gs hf
  have hs7 := zq_ks hs7
  obtain ⟨q8, e_q8, h_q8, hf⟩ := zq_qs hf
  refine zr_get (ci := 9) G hw q6 7 zi_9 hs7 rfl rfl (by decide) zm_625 (fun _ h => h) (v := .ref (ad q8)) (zs_fs rfl e_q8 h_q8) d_M_move_19 ?_
  refine lv_iload_n hx hb d_M_move_22 rfl (lv_at hl 0 rfl) ?_
  obtain ⟨hs9, hf⟩ := zq_gs hf
  have hs9 := zq_ks hs9
  obtain ⟨hi10, hf⟩ := zq_gs hf
  refine zr_iald G hw q8 hs9 rfl hi10 d_M_move_23 ?_
  refine lv_topi (fun v11 e_v11 => ?_)
  have hf := zq_vs e_v11 hf
  refine lv_istore_n hx hb d_M_move_24 rfl hl (by decide) rfl (fun ls hl => ?_)
  have hl : lv_has ls 5 [(2, .int v11), (1, .int v5), (0, .ref (ad 1))] := hl
  refine lv_aload_n hx hb d_M_move_25 rfl (lv_at hl 2 rfl) ?_
  obtain ⟨q12, e_q12, h_q12, hf⟩ := zq_qs hf
  refine zr_get (ci := 8) G hw 1 2 zi_8 rfl rfl rfl (by decide) zm_616 (fun _ h => h) (v := .ref (ad q12)) (zs_fr rfl e_q12 h_q12) d_M_move_26 ?_
  obtain ⟨hs13, hf⟩ := zq_gs hf
  have hs13 := zq_ks hs13
  obtain ⟨q14, e_q14, h_q14, hf⟩ := zq_qs hf
  refine zr_get (ci := 9) G hw q12 8 zi_9 hs13 rfl rfl (by decide) zm_626 (fun _ h => h) (v := .ref (ad q14)) (zs_fs rfl e_q14 h_q14) d_M_move_29 ?_
  refine lv_iload_n hx hb d_M_move_32 rfl (lv_at hl 1 rfl) ?_
  obtain ⟨hs15, hf⟩ := zq_gs hf
  have hs15 := zq_ks hs15
  obtain ⟨hi16, hf⟩ := zq_gs hf
  refine zr_iald G hw q14 hs15 rfl hi16 d_M_move_33 ?_
  refine lv_topi (fun v17 e_v17 => ?_)
  have hf := zq_vs e_v17 hf
  refine lv_istore_n hx hb d_M_move_34 rfl hl (by decide) rfl (fun ls hl => ?_)
  have hl : lv_has ls 5 [(3, .int v17), (2, .int v11), (1, .int v5), (0, .ref (ad 1))] := hl
  refine lv_aload_n hx hb d_M_move_35 rfl (lv_at hl 3 rfl) ?_
  refine zr_get (ci := 8) G hw 1 25 zi_8 rfl rfl rfl (by decide) zm_621 (fun _ h => h) (v := .ref (ad 64)) rfl d_M_move_36 ?_
  refine lv_iconst (v := 0) hx hb d_M_move_39 (by decide) ?_
  refine lv_aload_n hx hb d_M_move_40 rfl (lv_at hl 3 rfl) ?_
  refine zr_get (ci := 8) G hw 1 26 zi_8 rfl rfl rfl (by decide) zm_628 (fun _ h => h) (v := .ref (ad 65)) rfl d_M_move_41 ?_
  refine lv_iconst (v := 0) hx hb d_M_move_44 (by decide) ?_
  refine lv_bipush (v := 34) hx hb d_M_move_45 (by decide) ?_
  obtain ⟨hk18, hf⟩ := zq_gs hf
  obtain ⟨σ19, e_σ19, hf⟩ := zq_ss hf
  refine zr_copy (rest := []) G hw 64 65 rfl rfl rfl rfl (by decide) hk18 hl.1 zm_634 zm_26 zm_27 zm_28 (Nat.le_trans (by decide) hR1) (Nat.le_trans (Nat.le_of_ble_eq_true rfl) hR2) d_M_move_47 (fun H locs hw => ?_)
  rw [← e_σ19] at hw
  refine lv_aload_n hx hb d_M_move_50 rfl (lv_at hl 3 rfl) ?_
  refine zr_get (ci := 8) G hw 1 25 zi_8 rfl rfl rfl (by decide) zm_621 (fun _ h => h) (v := .ref (ad 64)) rfl d_M_move_51 ?_
  refine lv_aload_n hx hb d_M_move_54 rfl (lv_at hl 3 rfl) ?_
  refine zr_get (ci := 8) G hw 1 29 zi_8 rfl rfl rfl (by decide) zm_638 (fun _ h => h) (v := .int (zs_i σ19 1 29)) rfl d_M_move_55 ?_
  obtain ⟨r21, σ20, hc22, hf⟩ := zq_cs hf
  refine zr_ci hw (zr_runS (rest := [.ref (ad 64)]) G hw [.int (zs_i σ19 1 29)] (zc_M_each hJ hc22) (va_cwS 1 hts (zs_gS zm_623 zm_624 zm_551 zm_622) rfl rfl rfl (by decide +kernel) ⟨Nat.le_trans (by decide) hR1, Nat.le_trans (by decide) hR2⟩) rfl hl.1 (Nat.le_of_ble_eq_true rfl) d_M_move_58 ⟨Nat.zero_le _, Nat.zero_le _⟩) (fun H locs hw => ?_)
  refine lv_iconst (v := 4) hx hb d_M_move_61 (by decide) ?_
  refine lv_iadd hx hb d_M_move_62 ?_
  obtain ⟨hi23, hf⟩ := zq_gs hf
  refine zr_iald G hw 64 rfl rfl hi23 d_M_move_63 ?_
  refine lv_iconst (v := 2) hx hb d_M_move_64 (by decide) ?_
  refine lv_icmp_ne hx hb d_M_move_65 (tgt := 107) rfl (fun hc => ?_) (fun hc => ?_)
  · have hf := (if_neg hc).symm.trans hf
    refine lv_iload_n hx hb d_M_move_107 rfl (lv_at hl 1 rfl) ?_
    refine lv_iconst (v := 2) hx hb d_M_move_108 (by decide) ?_
    refine lv_iconst (v := 5) hx hb d_M_move_109 (by decide) ?_
    obtain ⟨r25, σ24, hc26, hf⟩ := zq_cs hf
    refine zr_ci hw (zr_runS (rest := []) G hw [.int v11, .int 2, .int 5] (zc_M_in hJ hc26) (va_cwS 3 hts (zs_gS zm_614 zm_615 zm_551 zm_613) rfl rfl rfl (by decide +kernel) ⟨Nat.le_trans (by decide) hR1, Nat.le_trans (by decide) hR2⟩) rfl hl.1 (Nat.le_of_ble_eq_true rfl) d_M_move_110 ⟨Nat.zero_le _, Nat.zero_le _⟩) (fun H locs hw => ?_)
    refine lv_if_eq hx hb d_M_move_113 (tgt := 138) rfl (fun hc => ?_) (fun hc => ?_)
    · have hf := (if_pos hc).symm.trans hf
      exact K138 v5 v11 v17 σ24 H locs ls hf hw (lv_sub hl [3, 2, 1, 0] rfl)
    · have hf := (if_neg hc).symm.trans hf
      refine lv_aload_n hx hb d_M_move_116 rfl (lv_at hl 3 rfl) ?_
      refine zr_get (ci := 8) G hw 1 25 zi_8 rfl rfl rfl (by decide) zm_621 (fun _ h => h) (v := .ref (ad 64)) rfl d_M_move_117 ?_
      refine lv_bipush (v := 8) hx hb d_M_move_120 (by decide) ?_
      refine lv_iload_n hx hb d_M_move_122 rfl (lv_at hl 0 rfl) ?_
      refine lv_iadd hx hb d_M_move_123 ?_
      obtain ⟨hi27, hf⟩ := zq_gs hf
      refine zr_iald G hw 64 rfl rfl hi27 d_M_move_124 ?_
      refine lv_aload_n hx hb d_M_move_125 rfl (lv_at hl 3 rfl) ?_
      refine zr_get (ci := 8) G hw 1 29 zi_8 rfl rfl rfl (by decide) zm_638 (fun _ h => h) (v := .int (zs_i σ24 1 29)) rfl d_M_move_126 ?_
      refine lv_icmp_eq hx hb d_M_move_129 (tgt := 138) rfl (fun hc => ?_) (fun hc => ?_)
      · have hf := (if_pos hc).symm.trans hf
        exact K138 v5 v11 v17 σ24 H locs ls hf hw (lv_sub hl [3, 2, 1, 0] rfl)
      · have hf := (if_neg hc).symm.trans hf
        refine lv_aload_n hx hb d_M_move_132 rfl (lv_at hl 3 rfl) ?_
        refine lv_iconst (v := 2) hx hb d_M_move_133 (by decide) ?_
        obtain ⟨r29, σ28, hc30, hf⟩ := zq_cs hf
        refine zr_ci hw (zr_runV (rest := []) (ci := 8) (o := 1) G hw [.int 2] (zc_M_wrong hJ hc30) (cwV 1 hts (zs_gV zm_656 zm_657 zm_658 zm_551 zm_655) rfl rfl rfl (by decide +kernel) ⟨Nat.le_trans (by decide) hR1, Nat.le_trans (by decide) hR2⟩) rfl rfl rfl hl.1 (Nat.le_of_ble_eq_true rfl) d_M_move_134 ⟨Nat.zero_le _, Nat.zero_le _⟩) (fun H locs hw => ?_)
        obtain ⟨hz, hf⟩ := zq_gs hf
        exact zr_zret G hw hr hlocks hz hf hQ d_M_move_137
  · have hf := (if_pos hc).symm.trans hf
    refine lv_aload_n hx hb d_M_move_68 rfl (lv_at hl 3 rfl) ?_
    refine zr_get (ci := 8) G hw 1 26 zi_8 rfl rfl rfl (by decide) zm_628 (fun _ h => h) (v := .ref (ad 65)) rfl d_M_move_69 ?_
    refine lv_bipush (v := 8) hx hb d_M_move_72 (by decide) ?_
    refine lv_iload_n hx hb d_M_move_74 rfl (lv_at hl 0 rfl) ?_
    refine lv_iadd hx hb d_M_move_75 ?_
    refine lv_aload_n hx hb d_M_move_76 rfl (lv_at hl 3 rfl) ?_
    refine zr_get (ci := 8) G hw 1 29 zi_8 rfl rfl rfl (by decide) zm_638 (fun _ h => h) (v := .int (zs_i σ20 1 29)) rfl d_M_move_77 ?_
    obtain ⟨hi31, hf⟩ := zq_gs hf
    obtain ⟨σ32, e_σ32, hf⟩ := zq_ss hf
    refine zr_iast G hw 65 rfl rfl  hi31  d_M_move_80 (fun H locs hw => ?_)
    rw [← e_σ32] at hw
    refine lv_aload_n hx hb d_M_move_81 rfl (lv_at hl 3 rfl) ?_
    refine zr_get (ci := 8) G hw 1 26 zi_8 rfl rfl rfl (by decide) zm_628 (fun _ h => h) (v := .ref (ad 65)) rfl d_M_move_82 ?_
    refine lv_aload_n hx hb d_M_move_85 rfl (lv_at hl 3 rfl) ?_
    refine zr_get (ci := 8) G hw 1 29 zi_8 rfl rfl rfl (by decide) zm_638 (fun _ h => h) (v := .int (zs_i σ32 1 29)) rfl d_M_move_86 ?_
    obtain ⟨r34, σ33, hc35, hf⟩ := zq_cs hf
    refine zr_ci hw (zr_runS (rest := [.ref (ad 65)]) G hw [.int (zs_i σ32 1 29)] (zc_M_each hJ hc35) (va_cwS 1 hts (zs_gS zm_623 zm_624 zm_551 zm_622) rfl rfl rfl (by decide +kernel) ⟨Nat.le_trans (by decide) hR1, Nat.le_trans (by decide) hR2⟩) rfl hl.1 (Nat.le_of_ble_eq_true rfl) d_M_move_89 ⟨Nat.zero_le _, Nat.zero_le _⟩) (fun H locs hw => ?_)
    refine lv_iconst (v := 4) hx hb d_M_move_92 (by decide) ?_
    refine lv_iadd hx hb d_M_move_93 ?_
    refine lv_iconst (v := 0) hx hb d_M_move_94 (by decide) ?_
    obtain ⟨hi36, hf⟩ := zq_gs hf
    obtain ⟨σ37, e_σ37, hf⟩ := zq_ss hf
    refine zr_iast G hw 65 rfl rfl  hi36  d_M_move_95 (fun H locs hw => ?_)
    rw [← e_σ37] at hw
    refine lv_aload_n hx hb d_M_move_96 rfl (lv_at hl 3 rfl) ?_
    refine lv_iload_n hx hb d_M_move_97 rfl (lv_at hl 2 rfl) ?_
    refine lv_iconst (v := 0) hx hb d_M_move_98 (by decide) ?_
    obtain ⟨σ38, hc40, hf⟩ := zq_ds hf
    refine zr_cv hw (zr_runV (rest := []) (ci := 8) (o := 1) G hw [.int v5, .int 0] (zc_M_goOn hJ hc40) (cwV 2 hts (zs_gV zm_648 zm_649 zm_650 zm_551 zm_647) rfl rfl rfl (by decide +kernel) ⟨Nat.le_trans (by decide) hR1, Nat.le_trans (by decide) hR2⟩) rfl rfl rfl hl.1 (Nat.le_of_ble_eq_true rfl) d_M_move_99 ⟨Nat.zero_le _, Nat.zero_le _⟩) (fun H locs hw => ?_)
    refine lv_aload_n hx hb d_M_move_102 rfl (lv_at hl 3 rfl) ?_
    obtain ⟨r42, σ41, hc43, hf⟩ := zq_cs hf
    refine zr_ci hw (zr_runV (rest := []) (ci := 8) (o := 1) G hw [] (zc_M_reach hJ hc43) (cwV 0 hts (zs_gV zm_643 zm_644 zm_645 zm_551 zm_642) rfl rfl rfl (by decide +kernel) ⟨Nat.le_trans (by decide) hR1, Nat.le_trans (by decide) hR2⟩) rfl rfl rfl hl.1 (Nat.le_of_ble_eq_true rfl) d_M_move_103 ⟨Nat.zero_le _, Nat.zero_le _⟩) (fun H locs hw => ?_)
    obtain ⟨hz, hf⟩ := zq_gs hf
    exact zr_zret G hw hr hlocks hz hf hQ d_M_move_106
/-! ScheduleCheckModel.load -/
def y_M_load : MethodName := ⟨"ScheduleCheckModel","load","(I)V"⟩
theorem d_M_load_0 : decode prog_13_method_39_code 0 = .ok (.aload_n 0, 1) := by decide +kernel
theorem d_M_load_1 : decode prog_13_method_39_code 1 = .ok (.getfield 27, 3) := by decide +kernel
theorem d_M_load_4 : decode prog_13_method_39_code 4 = .ok (.bipush 34, 2) := by decide +kernel
theorem d_M_load_6 : decode prog_13_method_39_code 6 = .ok (.iload_n 1, 1) := by decide +kernel
theorem d_M_load_7 : decode prog_13_method_39_code 7 = .ok (.imul, 1) := by decide +kernel
theorem d_M_load_8 : decode prog_13_method_39_code 8 = .ok (.aload_n 0, 1) := by decide +kernel
theorem d_M_load_9 : decode prog_13_method_39_code 9 = .ok (.getfield 45, 3) := by decide +kernel
theorem d_M_load_12 : decode prog_13_method_39_code 12 = .ok (.iconst 0, 1) := by decide +kernel
theorem d_M_load_13 : decode prog_13_method_39_code 13 = .ok (.bipush 34, 2) := by decide +kernel
theorem d_M_load_15 : decode prog_13_method_39_code 15 = .ok (.invokestatic 310, 3) := by decide +kernel
theorem d_M_load_18 : decode prog_13_method_39_code 18 = .ok (.return_, 1) := by decide +kernel
def zf_M_load (F : Nat) (x1 : Int32) (σ : zs_S) : Option (zs_S) :=
  zq_g (zq_cp 0 σ 58 (34 * x1) 0 34 27234 34) <|
  zq_v (zs_cp σ 58 64 (34 * x1 : Int32).toNatClampNeg (0 : Int32).toNatClampNeg (34 : Int32).toNatClampNeg) fun σ2 =>
  some σ2
set_option maxHeartbeats 4000000 in
set_option maxRecDepth 100000 in
theorem zc_M_load {l : Launch} {D : va_G} {cA : Nat → ClassId} {ad : Nat → Nat} {A : Nat → Prop} {F : Nat} {x1 : Int32} {σ : zs_S} {q : zs_S} (hJ : zs_J ad) (hf : zf_M_load F x1 σ = some q) : Met l y_M_load (.code y_M_load prog_13_method_39_code 2 none :: zd_ww) { frames := 1, cells := 0, slots := 0, locals := 60 } (va_Pc [.ref (ad 1), .int x1] (zs_U 1 D cA ad A σ)) (zs_Qv 1 D cA ad A q) 0 0 A := by
  refine Met.ofW (cc := prog_13_method_39_code) (maxL := 2) (ret := none) (by decide) rfl ?_
  intro p e s m args below meth c s₁ B hml hv
  obtain ⟨hargs, hP, hK, hD, hZ⟩ := hv
  have G : zs_G 1 p s m args c prog_13_method_39_code 2 "ScheduleCheckModel" D cA ad A := ⟨⟨B.exec, B.bytes, hml, findClass_of_methodNamed B.named, fun w h => atoms_spec B.pre w (List.mem_cons_of_mem _ h)⟩, hK, hJ, hZ⟩
  have hw : zs_I 1 D cA ad A s σ s.heap [] := ⟨hP, hD, va_S.rf⟩
  have hx := G.1.1
  have hb := G.1.2.1
  have hown := G.1.2.2.2.1
  have hts := G.1.2.2.2.2
  have hr := B.returns
  have hlocks := B.notSynchronized
  have he : entryFrame m args 2 = F0 m 0 ((lg_sl [.ref (ad 1), .int x1] ++ List.replicate (2 - (lg_sl [.ref (ad 1), .int x1]).length) Slot.unset).toArray) [] := by rw [hargs]; exact lg_entry_eq m _ 2
  have hl := lv_entry [.ref (ad 1), .int x1] (n := 2) (Nat.le_of_ble_eq_true rfl)
  rw [he]
  generalize (lg_sl [.ref (ad 1), .int x1] ++ List.replicate (2 - (lg_sl [.ref (ad 1), .int x1]).length) Slot.unset).toArray = ls at hl
  have hl : lv_has ls 2 [(0, .ref (ad 1)), (1, .int x1)] := hl
  obtain ⟨RR, hR⟩ : ∃ z, z = (headSpec (.code y_M_load prog_13_method_39_code 2 none :: zd_ww) { frames := 1, cells := 0, slots := 0, locals := 60 }).room := ⟨_, rfl⟩
  rw [← hR]
  obtain ⟨QQ, hQ⟩ : ∃ z, z = MQ below (zs_Qv 1 D cA ad A q) args s 0 0 A := ⟨_, rfl⟩
  rw [← hQ]
  have hR1 : 1 ≤ RR.frames := by rw [hR]; exact Nat.le_refl _
  have hR2 : 60 ≤ RR.locals := by rw [hR]; exact Nat.le_refl _
  generalize s.heap = H at hw ⊢
  generalize ([] : List Loc) = locs at hw ⊢
  unfold zf_M_load at hf
  refine lv_aload_n hx hb d_M_load_0 rfl (lv_at hl 0 rfl) ?_
  refine zr_get (ci := 8) G hw 1 17 zi_8 rfl rfl rfl (by decide) zm_627 (fun _ h => h) (v := .ref (ad 58)) rfl d_M_load_1 ?_
  refine lv_bipush (v := 34) hx hb d_M_load_4 (by decide) ?_
  refine lv_iload_n hx hb d_M_load_6 rfl (lv_at hl 1 rfl) ?_
  refine lv_imul hx hb d_M_load_7 ?_
  refine lv_aload_n hx hb d_M_load_8 rfl (lv_at hl 0 rfl) ?_
  refine zr_get (ci := 8) G hw 1 25 zi_8 rfl rfl rfl (by decide) zm_621 (fun _ h => h) (v := .ref (ad 64)) rfl d_M_load_9 ?_
  refine lv_iconst (v := 0) hx hb d_M_load_12 (by decide) ?_
  refine lv_bipush (v := 34) hx hb d_M_load_13 (by decide) ?_
  obtain ⟨hk1, hf⟩ := zq_gs hf
  obtain ⟨σ2, e_σ2, hf⟩ := zq_ss hf
  refine zr_copy (rest := []) G hw 58 64 rfl rfl rfl rfl (by decide) hk1 hl.1 zm_634 zm_26 zm_27 zm_28 (Nat.le_trans (by decide) hR1) (Nat.le_trans (Nat.le_of_ble_eq_true rfl) hR2) d_M_load_15 (fun H locs hw => ?_)
  rw [← e_σ2] at hw
  exact zr_vret G hw hr hlocks hf hQ d_M_load_18
/-! ScheduleCheckModel.sortOf -/
def y_M_sortOf : MethodName := ⟨"ScheduleCheckModel","sortOf","(I)I"⟩
theorem d_M_sortOf_0 : decode prog_13_method_40_code 0 = .ok (.aload_n 0, 1) := by decide +kernel
theorem d_M_sortOf_1 : decode prog_13_method_40_code 1 = .ok (.iload_n 1, 1) := by decide +kernel
theorem d_M_sortOf_2 : decode prog_13_method_40_code 2 = .ok (.invokevirtual 360, 3) := by decide +kernel
theorem d_M_sortOf_5 : decode prog_13_method_40_code 5 = .ok (.aload_n 0, 1) := by decide +kernel
theorem d_M_sortOf_6 : decode prog_13_method_40_code 6 = .ok (.getfield 45, 3) := by decide +kernel
theorem d_M_sortOf_9 : decode prog_13_method_40_code 9 = .ok (.bipush 32, 2) := by decide +kernel
theorem d_M_sortOf_11 : decode prog_13_method_40_code 11 = .ok (.iaload, 1) := by decide +kernel
theorem d_M_sortOf_12 : decode prog_13_method_40_code 12 = .ok (.ifCond .le 5, 3) := by decide +kernel
theorem d_M_sortOf_15 : decode prog_13_method_40_code 15 = .ok (.iconst 2, 1) := by decide +kernel
theorem d_M_sortOf_16 : decode prog_13_method_40_code 16 = .ok (.ireturn, 1) := by decide +kernel
theorem d_M_sortOf_17 : decode prog_13_method_40_code 17 = .ok (.iconst 1, 1) := by decide +kernel
theorem d_M_sortOf_18 : decode prog_13_method_40_code 18 = .ok (.istore_n 2, 1) := by decide +kernel
theorem d_M_sortOf_19 : decode prog_13_method_40_code 19 = .ok (.iconst 0, 1) := by decide +kernel
theorem d_M_sortOf_20 : decode prog_13_method_40_code 20 = .ok (.istore_n 3, 1) := by decide +kernel
theorem d_M_sortOf_21 : decode prog_13_method_40_code 21 = .ok (.iconst 0, 1) := by decide +kernel
theorem d_M_sortOf_22 : decode prog_13_method_40_code 22 = .ok (.istore 4, 2) := by decide +kernel
theorem d_M_sortOf_24 : decode prog_13_method_40_code 24 = .ok (.iload 4, 2) := by decide +kernel
theorem d_M_sortOf_26 : decode prog_13_method_40_code 26 = .ok (.aload_n 0, 1) := by decide +kernel
theorem d_M_sortOf_27 : decode prog_13_method_40_code 27 = .ok (.getfield 16, 3) := by decide +kernel
theorem d_M_sortOf_30 : decode prog_13_method_40_code 30 = .ok (.getfield 164, 3) := by decide +kernel
theorem d_M_sortOf_33 : decode prog_13_method_40_code 33 = .ok (.if_icmp .ge 41, 3) := by decide +kernel
theorem d_M_sortOf_36 : decode prog_13_method_40_code 36 = .ok (.iload_n 2, 1) := by decide +kernel
theorem d_M_sortOf_37 : decode prog_13_method_40_code 37 = .ok (.aload_n 0, 1) := by decide +kernel
theorem d_M_sortOf_38 : decode prog_13_method_40_code 38 = .ok (.getfield 45, 3) := by decide +kernel
theorem d_M_sortOf_41 : decode prog_13_method_40_code 41 = .ok (.iload 4, 2) := by decide +kernel
theorem d_M_sortOf_43 : decode prog_13_method_40_code 43 = .ok (.invokestatic 296, 3) := by decide +kernel
theorem d_M_sortOf_46 : decode prog_13_method_40_code 46 = .ok (.iconst 3, 1) := by decide +kernel
theorem d_M_sortOf_47 : decode prog_13_method_40_code 47 = .ok (.iadd, 1) := by decide +kernel
theorem d_M_sortOf_48 : decode prog_13_method_40_code 48 = .ok (.iaload, 1) := by decide +kernel
theorem d_M_sortOf_49 : decode prog_13_method_40_code 49 = .ok (.ifCond .ge 7, 3) := by decide +kernel
theorem d_M_sortOf_52 : decode prog_13_method_40_code 52 = .ok (.iconst 1, 1) := by decide +kernel
theorem d_M_sortOf_53 : decode prog_13_method_40_code 53 = .ok (.goto 4, 3) := by decide +kernel
theorem d_M_sortOf_56 : decode prog_13_method_40_code 56 = .ok (.iconst 0, 1) := by decide +kernel
theorem d_M_sortOf_57 : decode prog_13_method_40_code 57 = .ok (.iand, 1) := by decide +kernel
theorem d_M_sortOf_58 : decode prog_13_method_40_code 58 = .ok (.istore_n 2, 1) := by decide +kernel
theorem d_M_sortOf_59 : decode prog_13_method_40_code 59 = .ok (.iload_n 3, 1) := by decide +kernel
theorem d_M_sortOf_60 : decode prog_13_method_40_code 60 = .ok (.aload_n 0, 1) := by decide +kernel
theorem d_M_sortOf_61 : decode prog_13_method_40_code 61 = .ok (.iload 4, 2) := by decide +kernel
theorem d_M_sortOf_63 : decode prog_13_method_40_code 63 = .ok (.invokevirtual 354, 3) := by decide +kernel
theorem d_M_sortOf_66 : decode prog_13_method_40_code 66 = .ok (.ior, 1) := by decide +kernel
theorem d_M_sortOf_67 : decode prog_13_method_40_code 67 = .ok (.istore_n 3, 1) := by decide +kernel
theorem d_M_sortOf_68 : decode prog_13_method_40_code 68 = .ok (.iinc 4 1, 3) := by decide +kernel
theorem d_M_sortOf_71 : decode prog_13_method_40_code 71 = .ok (.goto (-47), 3) := by decide +kernel
theorem d_M_sortOf_74 : decode prog_13_method_40_code 74 = .ok (.iload_n 2, 1) := by decide +kernel
theorem d_M_sortOf_75 : decode prog_13_method_40_code 75 = .ok (.ifCond .eq 7, 3) := by decide +kernel
theorem d_M_sortOf_78 : decode prog_13_method_40_code 78 = .ok (.iconst 0, 1) := by decide +kernel
theorem d_M_sortOf_79 : decode prog_13_method_40_code 79 = .ok (.goto 12, 3) := by decide +kernel
theorem d_M_sortOf_82 : decode prog_13_method_40_code 82 = .ok (.iload_n 3, 1) := by decide +kernel
theorem d_M_sortOf_83 : decode prog_13_method_40_code 83 = .ok (.ifCond .eq 7, 3) := by decide +kernel
theorem d_M_sortOf_86 : decode prog_13_method_40_code 86 = .ok (.iconst (-1), 1) := by decide +kernel
theorem d_M_sortOf_87 : decode prog_13_method_40_code 87 = .ok (.goto 4, 3) := by decide +kernel
theorem d_M_sortOf_90 : decode prog_13_method_40_code 90 = .ok (.iconst 1, 1) := by decide +kernel
theorem d_M_sortOf_91 : decode prog_13_method_40_code 91 = .ok (.ireturn, 1) := by decide +kernel
def zf_M_sortOf_91 (F : Nat)  (t0 : Int32) (σ : zs_S) : Option (Int32 × zs_S) :=
  some (t0, σ)
def zf_M_sortOf_57 (F : Nat) (k24 : Int32 → Int32 → Int32 → zs_S → Option (Int32 × zs_S)) (x3 : Int32) (x4 : Int32) (t0 : Int32) (t1 : Int32) (σ : zs_S) : Option (Int32 × zs_S) :=
  zq_v (t1 &&& t0) fun v11 =>
  zq_c (zf_M_isReady F x4 σ) fun r13 σ12 =>
  zq_v (x3 ||| r13) fun v15 =>
  zq_v (x4 + 1) fun v16 =>
  k24 v11 v15 v16 σ12
def zf_M_sortOf_24 (F : Nat)  : Nat → Int32 → Int32 → Int32 → zs_S → Option (Int32 × zs_S)
  | 0, _, _, _, _ => none
  | n + 1, x2, x3, x4, σ =>
    zq_q (zs_r σ 1 2) fun q5 =>
    zq_g (zq_k 1 q5 19) <|
    if (zs_i σ q5 5) ≤ x4 then (
      if x2 = 0 then (
        if x3 = 0 then (
          zf_M_sortOf_91 F 1 σ
        ) else (
          zf_M_sortOf_91 F ((-1)) σ
        )
      ) else (
        zf_M_sortOf_91 F 0 σ
      )
    ) else (
      zq_c (zf_M_each F x4 σ) fun r8 σ7 =>
      zq_g (zq_b (r8 + 3) 34) <|
      if 0 ≤ (zs_i σ7 64 (r8 + 3).toNatClampNeg) then (
        zf_M_sortOf_57 F (zf_M_sortOf_24 F n) x3 x4 0 x2 σ7
      ) else (
        zf_M_sortOf_57 F (zf_M_sortOf_24 F n) x3 x4 1 x2 σ7
      )
    )
def zf_M_sortOf (F : Nat) (x1 : Int32) (σ : zs_S) : Option (Int32 × zs_S) :=
  zq_d (zf_M_load F x1 σ) fun σ1 =>
  zq_g (zq_b 32 34) <|
  if (zs_i σ1 64 (32 : Int32).toNatClampNeg) ≤ 0 then (
    zf_M_sortOf_24 F F 1 0 0 σ1
  ) else (
    some (2, σ1)
  )
set_option maxHeartbeats 4000000 in
set_option maxRecDepth 100000 in
theorem zc_M_sortOf {l : Launch} {D : va_G} {cA : Nat → ClassId} {ad : Nat → Nat} {A : Nat → Prop} {F : Nat} {x1 : Int32} {σ : zs_S} {q : Int32 × zs_S} (hJ : zs_J ad) (hf : zf_M_sortOf F x1 σ = some q) : Met l y_M_sortOf (.code y_M_sortOf prog_13_method_40_code 5 (some .int) :: zd_ww) { frames := 2, cells := 0, slots := 0, locals := 81 } (va_Pc [.ref (ad 1), .int x1] (zs_U 1 D cA ad A σ)) (zs_Qi 1 D cA ad A q) 0 0 A := by
  refine Met.ofW (cc := prog_13_method_40_code) (maxL := 5) (ret := (some .int)) (by decide) rfl ?_
  intro p e s m args below meth c s₁ B hml hv
  obtain ⟨hargs, hP, hK, hD, hZ⟩ := hv
  have G : zs_G 1 p s m args c prog_13_method_40_code 5 "ScheduleCheckModel" D cA ad A := ⟨⟨B.exec, B.bytes, hml, findClass_of_methodNamed B.named, fun w h => atoms_spec B.pre w (List.mem_cons_of_mem _ h)⟩, hK, hJ, hZ⟩
  have hw : zs_I 1 D cA ad A s σ s.heap [] := ⟨hP, hD, va_S.rf⟩
  have hx := G.1.1
  have hb := G.1.2.1
  have hown := G.1.2.2.2.1
  have hts := G.1.2.2.2.2
  have hr := B.returns
  have hlocks := B.notSynchronized
  have he : entryFrame m args 5 = F0 m 0 ((lg_sl [.ref (ad 1), .int x1] ++ List.replicate (5 - (lg_sl [.ref (ad 1), .int x1]).length) Slot.unset).toArray) [] := by rw [hargs]; exact lg_entry_eq m _ 5
  have hl := lv_entry [.ref (ad 1), .int x1] (n := 5) (Nat.le_of_ble_eq_true rfl)
  rw [he]
  generalize (lg_sl [.ref (ad 1), .int x1] ++ List.replicate (5 - (lg_sl [.ref (ad 1), .int x1]).length) Slot.unset).toArray = ls at hl
  have hl : lv_has ls 5 [(0, .ref (ad 1)), (1, .int x1)] := hl
  obtain ⟨RR, hR⟩ : ∃ z, z = (headSpec (.code y_M_sortOf prog_13_method_40_code 5 (some .int) :: zd_ww) { frames := 2, cells := 0, slots := 0, locals := 81 }).room := ⟨_, rfl⟩
  rw [← hR]
  obtain ⟨QQ, hQ⟩ : ∃ z, z = MQ below (zs_Qi 1 D cA ad A q) args s 0 0 A := ⟨_, rfl⟩
  rw [← hQ]
  have hR1 : 2 ≤ RR.frames := by rw [hR]; exact Nat.le_refl _
  have hR2 : 81 ≤ RR.locals := by rw [hR]; exact Nat.le_refl _
  generalize s.heap = H at hw ⊢
  generalize ([] : List Loc) = locs at hw ⊢
  have K91 : ∀ (t0 : Int32) (σ : zs_S) (H : Heap) (locs : List Loc) (ls : Array Slot), zf_M_sortOf_91 F t0 σ = some q → zs_I 1 D cA ad A s σ H locs → lv_has ls 5 [] → W p l e RR s m args below meth c H locs 0 0 QQ (F0 m 91 ls [.int t0]) := by
    intro  t0 σ H locs ls hf hw hl
    unfold zf_M_sortOf_91 at hf
    exact zr_iret G hw hr hlocks hf hQ d_M_sortOf_91
  have K57 : ∀ (k24 : Int32 → Int32 → Int32 → zs_S → Option (Int32 × zs_S)) (hk24 : ∀ (x2 : Int32) (x3 : Int32) (x4 : Int32) (σ : zs_S) (H : Heap) (locs : List Loc) (ls : Array Slot), k24 x2 x3 x4 σ = some q → zs_I 1 D cA ad A s σ H locs → lv_has ls 5 [(0, .ref (ad 1)), (2, .int x2), (3, .int x3), (4, .int x4)] → W p l e RR s m args below meth c H locs 0 0 QQ (F0 m 24 ls [])) (x3 : Int32) (x4 : Int32) (t0 : Int32) (t1 : Int32) (σ : zs_S) (H : Heap) (locs : List Loc) (ls : Array Slot), zf_M_sortOf_57 F k24 x3 x4 t0 t1 σ = some q → zs_I 1 D cA ad A s σ H locs → lv_has ls 5 [(0, .ref (ad 1)), (3, .int x3), (4, .int x4)] → W p l e RR s m args below meth c H locs 0 0 QQ (F0 m 57 ls [.int t0, .int t1]) := by
    intro k24 hk24 x3 x4 t0 t1 σ H locs ls hf hw hl
    unfold zf_M_sortOf_57 at hf
    refine lv_iand hx hb d_M_sortOf_57 ?_
    refine lv_topi (fun v11 e_v11 => ?_)
    have hf := zq_vs e_v11 hf
    refine lv_istore_n hx hb d_M_sortOf_58 rfl hl (by decide) rfl (fun ls hl => ?_)
    have hl : lv_has ls 5 [(2, .int v11), (0, .ref (ad 1)), (3, .int x3), (4, .int x4)] := hl
    refine lv_iload_n hx hb d_M_sortOf_59 rfl (lv_at hl 2 rfl) ?_
    refine lv_aload_n hx hb d_M_sortOf_60 rfl (lv_at hl 1 rfl) ?_
    refine lv_iload hx hb d_M_sortOf_61 (lv_at hl 3 rfl) ?_
    obtain ⟨r13, σ12, hc14, hf⟩ := zq_cs hf
    refine zr_ci hw (zr_runV (rest := [.int x3]) (ci := 8) (o := 1) G hw [.int x4] (zc_M_isReady hJ hc14) (cwV 1 hts (zs_gV zm_673 zm_674 zm_675 zm_551 zm_672) rfl rfl rfl (by decide +kernel) ⟨Nat.le_trans (by decide) hR1, Nat.le_trans (by decide) hR2⟩) rfl rfl rfl hl.1 (Nat.le_of_ble_eq_true rfl) d_M_sortOf_63 ⟨Nat.zero_le _, Nat.zero_le _⟩) (fun H locs hw => ?_)
    refine lv_ior hx hb d_M_sortOf_66 ?_
    refine lv_topi (fun v15 e_v15 => ?_)
    have hf := zq_vs e_v15 hf
    refine lv_istore_n hx hb d_M_sortOf_67 rfl hl (by decide) rfl (fun ls hl => ?_)
    have hl : lv_has ls 5 [(3, .int v15), (2, .int v11), (0, .ref (ad 1)), (4, .int x4)] := hl
    obtain ⟨v16, e_v16, hf⟩ := zq_ss hf
    refine lv_iinc (v := v16) hx hb d_M_sortOf_68 hl (k := 3) rfl (zq_inc (k := 1) (by decide) e_v16) (by decide) rfl (fun ls hl => ?_)
    have hl : lv_has ls 5 [(4, .int v16), (3, .int v15), (2, .int v11), (0, .ref (ad 1))] := hl
    refine lv_goto hx hb d_M_sortOf_71 (tgt := 24) rfl ?_
    exact hk24 v11 v15 v16 σ12 H locs ls hf hw (lv_sub hl [3, 2, 1, 0] rfl)
  have K24 : ∀ (n : Nat) (x2 : Int32) (x3 : Int32) (x4 : Int32) (σ : zs_S) (H : Heap) (locs : List Loc) (ls : Array Slot), zf_M_sortOf_24 F n x2 x3 x4 σ = some q → zs_I 1 D cA ad A s σ H locs → lv_has ls 5 [(0, .ref (ad 1)), (2, .int x2), (3, .int x3), (4, .int x4)] → W p l e RR s m args below meth c H locs 0 0 QQ (F0 m 24 ls []) := by
    intro  n
    induction n with
    | zero => intro x2 x3 x4 σ H locs ls hf hw hl; exact nomatch (show (none : Option (Int32 × zs_S)) = some q from hf)
    | succ n ih =>
      intro x2 x3 x4 σ H locs ls hf hw hl
      rw [zf_M_sortOf_24] at hf
      refine lv_iload hx hb d_M_sortOf_24 (lv_at hl 3 rfl) ?_
      refine lv_aload_n hx hb d_M_sortOf_26 rfl (lv_at hl 0 rfl) ?_
      obtain ⟨q5, e_q5, h_q5, hf⟩ := zq_qs hf
      refine zr_get (ci := 8) G hw 1 2 zi_8 rfl rfl rfl (by decide) zm_616 (fun _ h => h) (v := .ref (ad q5)) (zs_fr rfl e_q5 h_q5) d_M_sortOf_27 ?_
      obtain ⟨hs6, hf⟩ := zq_gs hf
      have hs6 := zq_ks hs6
      refine zr_get (ci := 9) G hw q5 5 zi_9 hs6 rfl rfl (by decide) zm_646 (fun _ h => h) (v := .int (zs_i σ q5 5)) rfl d_M_sortOf_30 ?_
      refine lv_icmp_ge hx hb d_M_sortOf_33 (tgt := 74) rfl (fun hc => ?_) (fun hc => ?_)
      · have hf := (if_pos hc).symm.trans hf
        refine lv_iload_n hx hb d_M_sortOf_74 rfl (lv_at hl 1 rfl) ?_
        refine lv_if_eq hx hb d_M_sortOf_75 (tgt := 82) rfl (fun hc => ?_) (fun hc => ?_)
        · have hf := (if_pos hc).symm.trans hf
          refine lv_iload_n hx hb d_M_sortOf_82 rfl (lv_at hl 2 rfl) ?_
          refine lv_if_eq hx hb d_M_sortOf_83 (tgt := 90) rfl (fun hc => ?_) (fun hc => ?_)
          · have hf := (if_pos hc).symm.trans hf
            refine lv_iconst (v := 1) hx hb d_M_sortOf_90 (by decide) ?_
            exact K91 1 σ H locs ls hf hw (lv_sub hl [] rfl)
          · have hf := (if_neg hc).symm.trans hf
            refine lv_iconst (v := (-1)) hx hb d_M_sortOf_86 (by decide) ?_
            refine lv_goto hx hb d_M_sortOf_87 (tgt := 91) rfl ?_
            exact K91 ((-1)) σ H locs ls hf hw (lv_sub hl [] rfl)
        · have hf := (if_neg hc).symm.trans hf
          refine lv_iconst (v := 0) hx hb d_M_sortOf_78 (by decide) ?_
          refine lv_goto hx hb d_M_sortOf_79 (tgt := 91) rfl ?_
          exact K91 0 σ H locs ls hf hw (lv_sub hl [] rfl)
      · have hf := (if_neg hc).symm.trans hf
        refine lv_iload_n hx hb d_M_sortOf_36 rfl (lv_at hl 1 rfl) ?_
        refine lv_aload_n hx hb d_M_sortOf_37 rfl (lv_at hl 0 rfl) ?_
        refine zr_get (ci := 8) G hw 1 25 zi_8 rfl rfl rfl (by decide) zm_621 (fun _ h => h) (v := .ref (ad 64)) rfl d_M_sortOf_38 ?_
        refine lv_iload hx hb d_M_sortOf_41 (lv_at hl 3 rfl) ?_
        obtain ⟨r8, σ7, hc9, hf⟩ := zq_cs hf
        refine zr_ci hw (zr_runS (rest := [.ref (ad 64), .int x2]) G hw [.int x4] (zc_M_each hJ hc9) (va_cwS 1 hts (zs_gS zm_623 zm_624 zm_551 zm_622) rfl rfl rfl (by decide +kernel) ⟨Nat.le_trans (by decide) hR1, Nat.le_trans (by decide) hR2⟩) rfl hl.1 (Nat.le_of_ble_eq_true rfl) d_M_sortOf_43 ⟨Nat.zero_le _, Nat.zero_le _⟩) (fun H locs hw => ?_)
        refine lv_iconst (v := 3) hx hb d_M_sortOf_46 (by decide) ?_
        refine lv_iadd hx hb d_M_sortOf_47 ?_
        obtain ⟨hi10, hf⟩ := zq_gs hf
        refine zr_iald G hw 64 rfl rfl hi10 d_M_sortOf_48 ?_
        refine lv_if_ge hx hb d_M_sortOf_49 (tgt := 56) rfl (fun hc => ?_) (fun hc => ?_)
        · have hf := (if_pos hc).symm.trans hf
          refine lv_iconst (v := 0) hx hb d_M_sortOf_56 (by decide) ?_
          exact K57 (zf_M_sortOf_24 F n) ih x3 x4 0 x2 σ7 H locs ls hf hw (lv_sub hl [0, 2, 3] rfl)
        · have hf := (if_neg hc).symm.trans hf
          refine lv_iconst (v := 1) hx hb d_M_sortOf_52 (by decide) ?_
          refine lv_goto hx hb d_M_sortOf_53 (tgt := 57) rfl ?_
          exact K57 (zf_M_sortOf_24 F n) ih x3 x4 1 x2 σ7 H locs ls hf hw (lv_sub hl [0, 2, 3] rfl)
  unfold zf_M_sortOf at hf
  refine lv_aload_n hx hb d_M_sortOf_0 rfl (lv_at hl 0 rfl) ?_
  refine lv_iload_n hx hb d_M_sortOf_1 rfl (lv_at hl 1 rfl) ?_
  obtain ⟨σ1, hc3, hf⟩ := zq_ds hf
  refine zr_cv hw (zr_runV (rest := []) (ci := 8) (o := 1) G hw [.int x1] (zc_M_load hJ hc3) (cwV 1 hts (zs_gV zm_669 zm_670 zm_671 zm_551 zm_668) rfl rfl rfl (by decide +kernel) ⟨Nat.le_trans (by decide) hR1, Nat.le_trans (by decide) hR2⟩) rfl rfl rfl hl.1 (Nat.le_of_ble_eq_true rfl) d_M_sortOf_2 ⟨Nat.zero_le _, Nat.zero_le _⟩) (fun H locs hw => ?_)
  refine lv_aload_n hx hb d_M_sortOf_5 rfl (lv_at hl 0 rfl) ?_
  refine zr_get (ci := 8) G hw 1 25 zi_8 rfl rfl rfl (by decide) zm_621 (fun _ h => h) (v := .ref (ad 64)) rfl d_M_sortOf_6 ?_
  refine lv_bipush (v := 32) hx hb d_M_sortOf_9 (by decide) ?_
  obtain ⟨hi4, hf⟩ := zq_gs hf
  refine zr_iald G hw 64 rfl rfl hi4 d_M_sortOf_11 ?_
  refine lv_if_le hx hb d_M_sortOf_12 (tgt := 17) rfl (fun hc => ?_) (fun hc => ?_)
  · have hf := (if_pos hc).symm.trans hf
    refine lv_iconst (v := 1) hx hb d_M_sortOf_17 (by decide) ?_
    refine lv_istore_n hx hb d_M_sortOf_18 rfl hl (by decide) rfl (fun ls hl => ?_)
    have hl : lv_has ls 5 [(2, .int 1), (0, .ref (ad 1)), (1, .int x1)] := hl
    refine lv_iconst (v := 0) hx hb d_M_sortOf_19 (by decide) ?_
    refine lv_istore_n hx hb d_M_sortOf_20 rfl hl (by decide) rfl (fun ls hl => ?_)
    have hl : lv_has ls 5 [(3, .int 0), (2, .int 1), (0, .ref (ad 1)), (1, .int x1)] := hl
    refine lv_iconst (v := 0) hx hb d_M_sortOf_21 (by decide) ?_
    refine lv_istore hx hb d_M_sortOf_22 hl (by decide) rfl (fun ls hl => ?_)
    have hl : lv_has ls 5 [(4, .int 0), (3, .int 0), (2, .int 1), (0, .ref (ad 1)), (1, .int x1)] := hl
    exact K24 F 1 0 0 σ1 H locs ls hf hw (lv_sub hl [3, 2, 1, 0] rfl)
  · have hf := (if_neg hc).symm.trans hf
    refine lv_iconst (v := 2) hx hb d_M_sortOf_15 (by decide) ?_
    exact zr_iret G hw hr hlocks hf hQ d_M_sortOf_16
