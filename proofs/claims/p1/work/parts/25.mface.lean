theorem zm_748 : Cond.code ⟨"ScheduleCheckModel","sortOf","(I)I"⟩ prog_13_method_40_code 5 (Option.some FieldType.int) ∈ zd_ww := zd_me 1223 (by decide +kernel) (by decide +kernel)
theorem zm_749 : Cond.methodLink "ScheduleCheckModel" 363 ⟨"ScheduleCheckModel","sortOf","(I)I"⟩ ∈ zd_ww := zd_me 1220 (by decide +kernel) (by decide +kernel)
theorem zm_750 : Cond.instanceMethod ⟨"ScheduleCheckModel","sortOf","(I)I"⟩ ∈ zd_ww := zd_me 1222 (by decide +kernel) (by decide +kernel)
theorem zm_751 : Cond.selects "ScheduleCheckModel" ⟨"ScheduleCheckModel","sortOf","(I)I"⟩ ⟨"ScheduleCheckModel","sortOf","(I)I"⟩ ∈ zd_ww := zd_ms 77 (by decide +kernel) (by decide +kernel)
theorem zm_752 : Cond.code ⟨"ScheduleCheckModel","isIn","(I)Z"⟩ prog_13_method_43_code 2 (Option.some FieldType.boolean) ∈ zd_ww := zd_me 1239 (by decide +kernel) (by decide +kernel)
theorem zm_753 : Cond.methodLink "ScheduleCheckModel" 366 ⟨"ScheduleCheckModel","isIn","(I)Z"⟩ ∈ zd_ww := zd_me 1236 (by decide +kernel) (by decide +kernel)
theorem zm_754 : Cond.instanceMethod ⟨"ScheduleCheckModel","isIn","(I)Z"⟩ ∈ zd_ww := zd_me 1238 (by decide +kernel) (by decide +kernel)
theorem zm_755 : Cond.selects "ScheduleCheckModel" ⟨"ScheduleCheckModel","isIn","(I)Z"⟩ ⟨"ScheduleCheckModel","isIn","(I)Z"⟩ ∈ zd_ww := zd_ms 79 (by decide +kernel) (by decide +kernel)
theorem zm_756 : Cond.code ⟨"ScheduleCheckModel","isThread","(II)Z"⟩ prog_13_method_46_code 3 (Option.some FieldType.boolean) ∈ zd_ww := zd_me 1251 (by decide +kernel) (by decide +kernel)
theorem zm_757 : Cond.methodLink "ScheduleCheckModel" 369 ⟨"ScheduleCheckModel","isThread","(II)Z"⟩ ∈ zd_ww := zd_me 1248 (by decide +kernel) (by decide +kernel)
theorem zm_758 : Cond.instanceMethod ⟨"ScheduleCheckModel","isThread","(II)Z"⟩ ∈ zd_ww := zd_me 1250 (by decide +kernel) (by decide +kernel)
theorem zm_759 : Cond.selects "ScheduleCheckModel" ⟨"ScheduleCheckModel","isThread","(II)Z"⟩ ⟨"ScheduleCheckModel","isThread","(II)Z"⟩ ∈ zd_ww := zd_ms 80 (by decide +kernel) (by decide +kernel)
theorem zm_760 : Cond.fieldLink "ScheduleCheckModel" 54 "ScheduleCheckModel" "seen" "[Z" ∈ zd_ww := zd_me 916 (by decide +kernel) (by decide +kernel)
theorem zm_761 : Cond.code ⟨"java/util/Arrays","fill","([ZZ)V"⟩ prog_22_method_111_code 4 none ∈ zd_ww := zd_me 1274 (by decide +kernel) (by decide +kernel)
theorem zm_762 : Cond.methodLink "ScheduleCheckModel" 372 ⟨"java/util/Arrays","fill","([ZZ)V"⟩ ∈ zd_ww := zd_me 1272 (by decide +kernel) (by decide +kernel)
theorem zm_763 : Cond.static ⟨"java/util/Arrays","fill","([ZZ)V"⟩ ∈ zd_ww := zd_me 1273 (by decide +kernel) (by decide +kernel)
theorem zm_764 : Cond.code ⟨"java/lang/Math","max","(II)I"⟩ prog_17_method_65_code 2 (Option.some FieldType.int) ∈ zd_ww := zd_me 1277 (by decide +kernel) (by decide +kernel)
theorem zm_765 : Cond.methodLink "ScheduleCheckModel" 375 ⟨"java/lang/Math","max","(II)I"⟩ ∈ zd_ww := zd_me 1275 (by decide +kernel) (by decide +kernel)
theorem zm_766 : Cond.static ⟨"java/lang/Math","max","(II)I"⟩ ∈ zd_ww := zd_me 1276 (by decide +kernel) (by decide +kernel)
theorem zm_767 : Cond.code ⟨"ScheduleCheckModel","has","(II)Z"⟩ prog_13_method_53_code 6 (Option.some FieldType.boolean) ∈ zd_ww := zd_me 1285 (by decide +kernel) (by decide +kernel)
theorem zm_768 : Cond.methodLink "ScheduleCheckModel" 378 ⟨"ScheduleCheckModel","has","(II)Z"⟩ ∈ zd_ww := zd_me 1282 (by decide +kernel) (by decide +kernel)
theorem zm_769 : Cond.instanceMethod ⟨"ScheduleCheckModel","has","(II)Z"⟩ ∈ zd_ww := zd_me 1284 (by decide +kernel) (by decide +kernel)
theorem zm_770 : Cond.selects "ScheduleCheckModel" ⟨"ScheduleCheckModel","has","(II)Z"⟩ ⟨"ScheduleCheckModel","has","(II)Z"⟩ ∈ zd_ww := zd_ms 81 (by decide +kernel) (by decide +kernel)
/-! ScheduleCheckModel.count -/
def y_M_count : MethodName := ⟨"ScheduleCheckModel","count","(I)I"⟩
theorem d_M_count_0 : decode prog_13_method_41_code 0 = .ok (.iload_n 1, 1) := by decide +kernel
theorem d_M_count_1 : decode prog_13_method_41_code 1 = .ok (.iconst 0, 1) := by decide +kernel
theorem d_M_count_2 : decode prog_13_method_41_code 2 = .ok (.bipush 8, 2) := by decide +kernel
theorem d_M_count_4 : decode prog_13_method_41_code 4 = .ok (.invokestatic 62, 3) := by decide +kernel
theorem d_M_count_7 : decode prog_13_method_41_code 7 = .ok (.ifCond .ne 5, 3) := by decide +kernel
theorem d_M_count_10 : decode prog_13_method_41_code 10 = .ok (.iconst (-1), 1) := by decide +kernel
theorem d_M_count_11 : decode prog_13_method_41_code 11 = .ok (.ireturn, 1) := by decide +kernel
theorem d_M_count_12 : decode prog_13_method_41_code 12 = .ok (.aload_n 0, 1) := by decide +kernel
theorem d_M_count_13 : decode prog_13_method_41_code 13 = .ok (.getfield 344, 3) := by decide +kernel
theorem d_M_count_16 : decode prog_13_method_41_code 16 = .ok (.ifCond .ne 5, 3) := by decide +kernel
theorem d_M_count_19 : decode prog_13_method_41_code 19 = .ok (.iconst 0, 1) := by decide +kernel
theorem d_M_count_20 : decode prog_13_method_41_code 20 = .ok (.ireturn, 1) := by decide +kernel
theorem d_M_count_21 : decode prog_13_method_41_code 21 = .ok (.iconst 0, 1) := by decide +kernel
theorem d_M_count_22 : decode prog_13_method_41_code 22 = .ok (.istore_n 2, 1) := by decide +kernel
theorem d_M_count_23 : decode prog_13_method_41_code 23 = .ok (.iload_n 1, 1) := by decide +kernel
theorem d_M_count_24 : decode prog_13_method_41_code 24 = .ok (.tableswitch 199 0 8 #[52, 57, 199, 199, 199, 161, 169, 180, 191], 52) := by decide +kernel
theorem d_M_count_76 : decode prog_13_method_41_code 76 = .ok (.aload_n 0, 1) := by decide +kernel
theorem d_M_count_77 : decode prog_13_method_41_code 77 = .ok (.getfield 304, 3) := by decide +kernel
theorem d_M_count_80 : decode prog_13_method_41_code 80 = .ok (.ireturn, 1) := by decide +kernel
theorem d_M_count_81 : decode prog_13_method_41_code 81 = .ok (.iconst 0, 1) := by decide +kernel
theorem d_M_count_82 : decode prog_13_method_41_code 82 = .ok (.istore_n 3, 1) := by decide +kernel
theorem d_M_count_83 : decode prog_13_method_41_code 83 = .ok (.iload_n 3, 1) := by decide +kernel
theorem d_M_count_84 : decode prog_13_method_41_code 84 = .ok (.aload_n 0, 1) := by decide +kernel
theorem d_M_count_85 : decode prog_13_method_41_code 85 = .ok (.getfield 304, 3) := by decide +kernel
theorem d_M_count_88 : decode prog_13_method_41_code 88 = .ok (.if_icmp .ge 95, 3) := by decide +kernel
theorem d_M_count_91 : decode prog_13_method_41_code 91 = .ok (.aload_n 0, 1) := by decide +kernel
theorem d_M_count_92 : decode prog_13_method_41_code 92 = .ok (.getfield 39, 3) := by decide +kernel
theorem d_M_count_95 : decode prog_13_method_41_code 95 = .ok (.iload_n 3, 1) := by decide +kernel
theorem d_M_count_96 : decode prog_13_method_41_code 96 = .ok (.iaload, 1) := by decide +kernel
theorem d_M_count_97 : decode prog_13_method_41_code 97 = .ok (.istore 4, 2) := by decide +kernel
theorem d_M_count_99 : decode prog_13_method_41_code 99 = .ok (.iload 4, 2) := by decide +kernel
theorem d_M_count_101 : decode prog_13_method_41_code 101 = .ok (.aload_n 0, 1) := by decide +kernel
theorem d_M_count_102 : decode prog_13_method_41_code 102 = .ok (.getfield 39, 3) := by decide +kernel
theorem d_M_count_105 : decode prog_13_method_41_code 105 = .ok (.iload_n 3, 1) := by decide +kernel
theorem d_M_count_106 : decode prog_13_method_41_code 106 = .ok (.iconst 1, 1) := by decide +kernel
theorem d_M_count_107 : decode prog_13_method_41_code 107 = .ok (.iadd, 1) := by decide +kernel
theorem d_M_count_108 : decode prog_13_method_41_code 108 = .ok (.iaload, 1) := by decide +kernel
theorem d_M_count_109 : decode prog_13_method_41_code 109 = .ok (.if_icmp .ge 68, 3) := by decide +kernel
theorem d_M_count_112 : decode prog_13_method_41_code 112 = .ok (.iconst 1, 1) := by decide +kernel
theorem d_M_count_113 : decode prog_13_method_41_code 113 = .ok (.istore 5, 2) := by decide +kernel
theorem d_M_count_115 : decode prog_13_method_41_code 115 = .ok (.aload_n 0, 1) := by decide +kernel
theorem d_M_count_116 : decode prog_13_method_41_code 116 = .ok (.getfield 39, 3) := by decide +kernel
theorem d_M_count_119 : decode prog_13_method_41_code 119 = .ok (.iload_n 3, 1) := by decide +kernel
theorem d_M_count_120 : decode prog_13_method_41_code 120 = .ok (.iaload, 1) := by decide +kernel
theorem d_M_count_121 : decode prog_13_method_41_code 121 = .ok (.istore 6, 2) := by decide +kernel
theorem d_M_count_123 : decode prog_13_method_41_code 123 = .ok (.iload 6, 2) := by decide +kernel
theorem d_M_count_125 : decode prog_13_method_41_code 125 = .ok (.iload 4, 2) := by decide +kernel
theorem d_M_count_127 : decode prog_13_method_41_code 127 = .ok (.if_icmp .ge 36, 3) := by decide +kernel
theorem d_M_count_130 : decode prog_13_method_41_code 130 = .ok (.iload 5, 2) := by decide +kernel
theorem d_M_count_132 : decode prog_13_method_41_code 132 = .ok (.aload_n 0, 1) := by decide +kernel
theorem d_M_count_133 : decode prog_13_method_41_code 133 = .ok (.getfield 42, 3) := by decide +kernel
theorem d_M_count_136 : decode prog_13_method_41_code 136 = .ok (.iload 6, 2) := by decide +kernel
theorem d_M_count_138 : decode prog_13_method_41_code 138 = .ok (.iaload, 1) := by decide +kernel
theorem d_M_count_139 : decode prog_13_method_41_code 139 = .ok (.aload_n 0, 1) := by decide +kernel
theorem d_M_count_140 : decode prog_13_method_41_code 140 = .ok (.getfield 42, 3) := by decide +kernel
theorem d_M_count_143 : decode prog_13_method_41_code 143 = .ok (.iload 4, 2) := by decide +kernel
theorem d_M_count_145 : decode prog_13_method_41_code 145 = .ok (.iaload, 1) := by decide +kernel
theorem d_M_count_146 : decode prog_13_method_41_code 146 = .ok (.if_icmp .eq 7, 3) := by decide +kernel
theorem d_M_count_149 : decode prog_13_method_41_code 149 = .ok (.iconst 1, 1) := by decide +kernel
theorem d_M_count_150 : decode prog_13_method_41_code 150 = .ok (.goto 4, 3) := by decide +kernel
theorem d_M_count_153 : decode prog_13_method_41_code 153 = .ok (.iconst 0, 1) := by decide +kernel
theorem d_M_count_154 : decode prog_13_method_41_code 154 = .ok (.iand, 1) := by decide +kernel
theorem d_M_count_155 : decode prog_13_method_41_code 155 = .ok (.istore 5, 2) := by decide +kernel
theorem d_M_count_157 : decode prog_13_method_41_code 157 = .ok (.iinc 6 1, 3) := by decide +kernel
theorem d_M_count_160 : decode prog_13_method_41_code 160 = .ok (.goto (-37), 3) := by decide +kernel
theorem d_M_count_163 : decode prog_13_method_41_code 163 = .ok (.iload 5, 2) := by decide +kernel
theorem d_M_count_165 : decode prog_13_method_41_code 165 = .ok (.ifCond .eq 6, 3) := by decide +kernel
theorem d_M_count_168 : decode prog_13_method_41_code 168 = .ok (.iinc 2 1, 3) := by decide +kernel
theorem d_M_count_171 : decode prog_13_method_41_code 171 = .ok (.iinc 4 1, 3) := by decide +kernel
theorem d_M_count_174 : decode prog_13_method_41_code 174 = .ok (.goto (-75), 3) := by decide +kernel
theorem d_M_count_177 : decode prog_13_method_41_code 177 = .ok (.iinc 3 1, 3) := by decide +kernel
theorem d_M_count_180 : decode prog_13_method_41_code 180 = .ok (.goto (-97), 3) := by decide +kernel
theorem d_M_count_183 : decode prog_13_method_41_code 183 = .ok (.iload_n 2, 1) := by decide +kernel
theorem d_M_count_184 : decode prog_13_method_41_code 184 = .ok (.ireturn, 1) := by decide +kernel
theorem d_M_count_185 : decode prog_13_method_41_code 185 = .ok (.aload_n 0, 1) := by decide +kernel
theorem d_M_count_186 : decode prog_13_method_41_code 186 = .ok (.getfield 16, 3) := by decide +kernel
theorem d_M_count_189 : decode prog_13_method_41_code 189 = .ok (.getfield 164, 3) := by decide +kernel
theorem d_M_count_192 : decode prog_13_method_41_code 192 = .ok (.ireturn, 1) := by decide +kernel
theorem d_M_count_193 : decode prog_13_method_41_code 193 = .ok (.aload_n 0, 1) := by decide +kernel
theorem d_M_count_194 : decode prog_13_method_41_code 194 = .ok (.getfield 16, 3) := by decide +kernel
theorem d_M_count_197 : decode prog_13_method_41_code 197 = .ok (.getfield 152, 3) := by decide +kernel
theorem d_M_count_200 : decode prog_13_method_41_code 200 = .ok (.getfield 156, 3) := by decide +kernel
theorem d_M_count_203 : decode prog_13_method_41_code 203 = .ok (.ireturn, 1) := by decide +kernel
theorem d_M_count_204 : decode prog_13_method_41_code 204 = .ok (.aload_n 0, 1) := by decide +kernel
theorem d_M_count_205 : decode prog_13_method_41_code 205 = .ok (.getfield 16, 3) := by decide +kernel
theorem d_M_count_208 : decode prog_13_method_41_code 208 = .ok (.getfield 161, 3) := by decide +kernel
theorem d_M_count_211 : decode prog_13_method_41_code 211 = .ok (.getfield 156, 3) := by decide +kernel
theorem d_M_count_214 : decode prog_13_method_41_code 214 = .ok (.ireturn, 1) := by decide +kernel
theorem d_M_count_215 : decode prog_13_method_41_code 215 = .ok (.aload_n 0, 1) := by decide +kernel
theorem d_M_count_216 : decode prog_13_method_41_code 216 = .ok (.getfield 16, 3) := by decide +kernel
theorem d_M_count_219 : decode prog_13_method_41_code 219 = .ok (.getfield 167, 3) := by decide +kernel
theorem d_M_count_222 : decode prog_13_method_41_code 222 = .ok (.ireturn, 1) := by decide +kernel
theorem d_M_count_223 : decode prog_13_method_41_code 223 = .ok (.iconst 0, 1) := by decide +kernel
theorem d_M_count_224 : decode prog_13_method_41_code 224 = .ok (.istore_n 3, 1) := by decide +kernel
theorem d_M_count_225 : decode prog_13_method_41_code 225 = .ok (.iload_n 3, 1) := by decide +kernel
theorem d_M_count_226 : decode prog_13_method_41_code 226 = .ok (.aload_n 0, 1) := by decide +kernel
theorem d_M_count_227 : decode prog_13_method_41_code 227 = .ok (.getfield 304, 3) := by decide +kernel
theorem d_M_count_230 : decode prog_13_method_41_code 230 = .ok (.if_icmp .ge 23, 3) := by decide +kernel
theorem d_M_count_233 : decode prog_13_method_41_code 233 = .ok (.aload_n 0, 1) := by decide +kernel
theorem d_M_count_234 : decode prog_13_method_41_code 234 = .ok (.iload_n 3, 1) := by decide +kernel
theorem d_M_count_235 : decode prog_13_method_41_code 235 = .ok (.invokevirtual 363, 3) := by decide +kernel
theorem d_M_count_238 : decode prog_13_method_41_code 238 = .ok (.iload_n 1, 1) := by decide +kernel
theorem d_M_count_239 : decode prog_13_method_41_code 239 = .ok (.iconst 2, 1) := by decide +kernel
theorem d_M_count_240 : decode prog_13_method_41_code 240 = .ok (.isub, 1) := by decide +kernel
theorem d_M_count_241 : decode prog_13_method_41_code 241 = .ok (.if_icmp .ne 6, 3) := by decide +kernel
theorem d_M_count_244 : decode prog_13_method_41_code 244 = .ok (.iinc 2 1, 3) := by decide +kernel
theorem d_M_count_247 : decode prog_13_method_41_code 247 = .ok (.iinc 3 1, 3) := by decide +kernel
theorem d_M_count_250 : decode prog_13_method_41_code 250 = .ok (.goto (-25), 3) := by decide +kernel
theorem d_M_count_253 : decode prog_13_method_41_code 253 = .ok (.iload_n 2, 1) := by decide +kernel
theorem d_M_count_254 : decode prog_13_method_41_code 254 = .ok (.ireturn, 1) := by decide +kernel
def zf_M_count_247 (F : Nat) (k225 : Int32 → Int32 → Int32 → zs_S → Option (Int32 × zs_S)) (x1 : Int32) (x2 : Int32) (x3 : Int32) (σ : zs_S) : Option (Int32 × zs_S) :=
  zq_v (x3 + 1) fun v26 =>
  k225 x1 x2 v26 σ
def zf_M_count_225 (F : Nat)  : Nat → Int32 → Int32 → Int32 → zs_S → Option (Int32 × zs_S)
  | 0, _, _, _, _ => none
  | n + 1, x1, x2, x3, σ =>
    if (zs_i σ 1 23) ≤ x3 then (
      some (x2, σ)
    ) else (
      zq_c (zf_M_sortOf F x3 σ) fun r19 σ18 =>
      if r19 = (x1 - 2) then (
        zq_v (x2 + 1) fun v21 =>
        zf_M_count_247 F (zf_M_count_225 F n) x1 v21 x3 σ18
      ) else (
        zf_M_count_247 F (zf_M_count_225 F n) x1 x2 x3 σ18
      )
    )
def zf_M_count_171 (F : Nat) (k83 : Int32 → Int32 → zs_S → Option (Int32 × zs_S)) (k99 : Int32 → Int32 → Int32 → zs_S → Option (Int32 × zs_S)) (x2 : Int32) (x3 : Int32) (x4 : Int32) (σ : zs_S) : Option (Int32 × zs_S) :=
  zq_v (x4 + 1) fun v32 =>
  k99 x2 x3 v32 σ
def zf_M_count_154 (F : Nat) (k83 : Int32 → Int32 → zs_S → Option (Int32 × zs_S)) (k99 : Int32 → Int32 → Int32 → zs_S → Option (Int32 × zs_S)) (k123 : Int32 → Int32 → Int32 → Int32 → Int32 → zs_S → Option (Int32 × zs_S)) (x2 : Int32) (x3 : Int32) (x4 : Int32) (x6 : Int32) (t0 : Int32) (t1 : Int32) (σ : zs_S) : Option (Int32 × zs_S) :=
  zq_v (t1 &&& t0) fun v30 =>
  zq_v (x6 + 1) fun v31 =>
  k123 x2 x3 x4 v30 v31 σ
def zf_M_count_123 (F : Nat) (k83 : Int32 → Int32 → zs_S → Option (Int32 × zs_S)) (k99 : Int32 → Int32 → Int32 → zs_S → Option (Int32 × zs_S)) : Nat → Int32 → Int32 → Int32 → Int32 → Int32 → zs_S → Option (Int32 × zs_S)
  | 0, _, _, _, _, _, _ => none
  | n + 1, x2, x3, x4, x5, x6, σ =>
    if x4 ≤ x6 then (
      if x5 = 0 then (
        zf_M_count_171 F k83 k99 x2 x3 x4 σ
      ) else (
        zq_v (x2 + 1) fun v27 =>
        zf_M_count_171 F k83 k99 v27 x3 x4 σ
      )
    ) else (
      zq_g (zq_b x6 12800) <|
      zq_g (zq_b x4 12800) <|
      if (zs_i σ 63 (x6).toNatClampNeg) = (zs_i σ 63 (x4).toNatClampNeg) then (
        zf_M_count_154 F k83 k99 (zf_M_count_123 F k83 k99 n) x2 x3 x4 x6 0 x5 σ
      ) else (
        zf_M_count_154 F k83 k99 (zf_M_count_123 F k83 k99 n) x2 x3 x4 x6 1 x5 σ
      )
    )
def zf_M_count_99 (F : Nat) (k83 : Int32 → Int32 → zs_S → Option (Int32 × zs_S)) : Nat → Int32 → Int32 → Int32 → zs_S → Option (Int32 × zs_S)
  | 0, _, _, _, _ => none
  | n + 1, x2, x3, x4, σ =>
    zq_g (zq_b (x3 + 1) 802) <|
    if (zs_i σ 62 (x3 + 1).toNatClampNeg) ≤ x4 then (
      zq_v (x3 + 1) fun v23 =>
      k83 x2 v23 σ
    ) else (
      zq_g (zq_b x3 802) <|
      zq_v (zs_i σ 62 (x3).toNatClampNeg) fun v25 =>
      zf_M_count_123 F k83 (zf_M_count_99 F k83 n) F x2 x3 x4 1 v25 σ
    )
def zf_M_count_83 (F : Nat)  : Nat → Int32 → Int32 → zs_S → Option (Int32 × zs_S)
  | 0, _, _, _ => none
  | n + 1, x2, x3, σ =>
    if (zs_i σ 1 23) ≤ x3 then (
      some (x2, σ)
    ) else (
      zq_g (zq_b x3 802) <|
      zq_v (zs_i σ 62 (x3).toNatClampNeg) fun v17 =>
      zf_M_count_99 F (zf_M_count_83 F n) F x2 x3 v17 σ
    )
def zf_M_count (F : Nat) (x1 : Int32) (σ : zs_S) : Option (Int32 × zs_S) :=
  zq_c (zf_M_in F x1 0 8 σ) fun r2 σ1 =>
  if r2 = 0 then (
    some ((-1), σ1)
  ) else (
    if (zs_i σ1 1 4) = 0 then (
      some (0, σ1)
    ) else (
      if x1 = 0 then (
        some (zs_i σ1 1 23, σ1)
      ) else (
      if x1 = 1 then (
        zf_M_count_83 F F 0 0 σ1
      ) else (
      if x1 = 2 then (
        zf_M_count_225 F F x1 0 0 σ1
      ) else (
      if x1 = 3 then (
        zf_M_count_225 F F x1 0 0 σ1
      ) else (
      if x1 = 4 then (
        zf_M_count_225 F F x1 0 0 σ1
      ) else (
      if x1 = 5 then (
        zq_q (zs_r σ1 1 2) fun q4 =>
        zq_g (zq_k 1 q4 19) <|
        some (zs_i σ1 q4 5, σ1)
      ) else (
      if x1 = 6 then (
        zq_q (zs_r σ1 1 2) fun q6 =>
        zq_g (zq_k 1 q6 19) <|
        zq_q (zd_rf 1 q6 0) fun q8 =>
        zq_g (zq_k 1 q8 20) <|
        some (zs_i σ1 q8 2, σ1)
      ) else (
      if x1 = 7 then (
        zq_q (zs_r σ1 1 2) fun q10 =>
        zq_g (zq_k 1 q10 19) <|
        zq_q (zd_rf 1 q10 1) fun q12 =>
        zq_g (zq_k 1 q12 20) <|
        some (zs_i σ1 q12 2, σ1)
      ) else (
      if x1 = 8 then (
        zq_q (zs_r σ1 1 2) fun q14 =>
        zq_g (zq_k 1 q14 19) <|
        some (zs_i σ1 q14 6, σ1)
      ) else (
        zf_M_count_225 F F x1 0 0 σ1
      )))))))))
    )
  )
set_option maxHeartbeats 4000000 in
set_option maxRecDepth 100000 in
theorem zc_M_count {l : Launch} {D : va_G} {cA : Nat → ClassId} {ad : Nat → Nat} {A : Nat → Prop} {F : Nat} {x1 : Int32} {σ : zs_S} {q : Int32 × zs_S} (hJ : zs_J ad) (hf : zf_M_count F x1 σ = some q) : Met l y_M_count (.code y_M_count prog_13_method_41_code 7 (some .int) :: zd_ww) { frames := 3, cells := 0, slots := 0, locals := 105 } (va_Pc [.ref (ad 1), .int x1] (zs_U 1 D cA ad A σ)) (zs_Qi 1 D cA ad A q) 0 0 A := by
  refine Met.ofW (cc := prog_13_method_41_code) (maxL := 7) (ret := (some .int)) (by decide) rfl ?_
  intro p e s m args below meth c s₁ B hml hv
  obtain ⟨hargs, hP, hK, hD, hZ⟩ := hv
  have G : zs_G 1 p s m args c prog_13_method_41_code 7 "ScheduleCheckModel" D cA ad A := ⟨⟨B.exec, B.bytes, hml, findClass_of_methodNamed B.named, fun w h => atoms_spec B.pre w (List.mem_cons_of_mem _ h)⟩, hK, hJ, hZ⟩
  have hw : zs_I 1 D cA ad A s σ s.heap [] := ⟨hP, hD, va_S.rf⟩
  have hx := G.1.1
  have hb := G.1.2.1
  have hown := G.1.2.2.2.1
  have hts := G.1.2.2.2.2
  have hr := B.returns
  have hlocks := B.notSynchronized
  have he : entryFrame m args 7 = F0 m 0 ((lg_sl [.ref (ad 1), .int x1] ++ List.replicate (7 - (lg_sl [.ref (ad 1), .int x1]).length) Slot.unset).toArray) [] := by rw [hargs]; exact lg_entry_eq m _ 7
  have hl := lv_entry [.ref (ad 1), .int x1] (n := 7) (Nat.le_of_ble_eq_true rfl)
  rw [he]
  generalize (lg_sl [.ref (ad 1), .int x1] ++ List.replicate (7 - (lg_sl [.ref (ad 1), .int x1]).length) Slot.unset).toArray = ls at hl
  have hl : lv_has ls 7 [(0, .ref (ad 1)), (1, .int x1)] := hl
  obtain ⟨RR, hR⟩ : ∃ z, z = (headSpec (.code y_M_count prog_13_method_41_code 7 (some .int) :: zd_ww) { frames := 3, cells := 0, slots := 0, locals := 105 }).room := ⟨_, rfl⟩
  rw [← hR]
  obtain ⟨QQ, hQ⟩ : ∃ z, z = MQ below (zs_Qi 1 D cA ad A q) args s 0 0 A := ⟨_, rfl⟩
  rw [← hQ]
  have hR1 : 3 ≤ RR.frames := by rw [hR]; exact Nat.le_refl _
  have hR2 : 105 ≤ RR.locals := by rw [hR]; exact Nat.le_refl _
  generalize s.heap = H at hw ⊢
  generalize ([] : List Loc) = locs at hw ⊢
  have K247 : ∀ (k225 : Int32 → Int32 → Int32 → zs_S → Option (Int32 × zs_S)) (hk225 : ∀ (x1 : Int32) (x2 : Int32) (x3 : Int32) (σ : zs_S) (H : Heap) (locs : List Loc) (ls : Array Slot), k225 x1 x2 x3 σ = some q → zs_I 1 D cA ad A s σ H locs → lv_has ls 7 [(0, .ref (ad 1)), (1, .int x1), (2, .int x2), (3, .int x3)] → W p l e RR s m args below meth c H locs 0 0 QQ (F0 m 225 ls [])) (x1 : Int32) (x2 : Int32) (x3 : Int32) (σ : zs_S) (H : Heap) (locs : List Loc) (ls : Array Slot), zf_M_count_247 F k225 x1 x2 x3 σ = some q → zs_I 1 D cA ad A s σ H locs → lv_has ls 7 [(0, .ref (ad 1)), (1, .int x1), (2, .int x2), (3, .int x3)] → W p l e RR s m args below meth c H locs 0 0 QQ (F0 m 247 ls []) := by
    intro k225 hk225 x1 x2 x3 σ H locs ls hf hw hl
    unfold zf_M_count_247 at hf
    obtain ⟨v26, e_v26, hf⟩ := zq_ss hf
    refine lv_iinc (v := v26) hx hb d_M_count_247 hl (k := 3) rfl (zq_inc (k := 1) (by decide) e_v26) (by decide) rfl (fun ls hl => ?_)
    have hl : lv_has ls 7 [(3, .int v26), (0, .ref (ad 1)), (1, .int x1), (2, .int x2)] := hl
    refine lv_goto hx hb d_M_count_250 (tgt := 225) rfl ?_
    exact hk225 x1 x2 v26 σ H locs ls hf hw (lv_sub hl [1, 2, 3, 0] rfl)
  have K225 : ∀ (n : Nat) (x1 : Int32) (x2 : Int32) (x3 : Int32) (σ : zs_S) (H : Heap) (locs : List Loc) (ls : Array Slot), zf_M_count_225 F n x1 x2 x3 σ = some q → zs_I 1 D cA ad A s σ H locs → lv_has ls 7 [(0, .ref (ad 1)), (1, .int x1), (2, .int x2), (3, .int x3)] → W p l e RR s m args below meth c H locs 0 0 QQ (F0 m 225 ls []) := by
    intro  n
    induction n with
    | zero => intro x1 x2 x3 σ H locs ls hf hw hl; exact nomatch (show (none : Option (Int32 × zs_S)) = some q from hf)
    | succ n ih =>
      intro x1 x2 x3 σ H locs ls hf hw hl
      rw [zf_M_count_225] at hf
      refine lv_iload_n hx hb d_M_count_225 rfl (lv_at hl 3 rfl) ?_
      refine lv_aload_n hx hb d_M_count_226 rfl (lv_at hl 0 rfl) ?_
      refine zr_get (ci := 8) G hw 1 23 zi_8 rfl rfl rfl (by decide) zm_629 (fun _ h => h) (v := .int (zs_i σ 1 23)) rfl d_M_count_227 ?_
      refine lv_icmp_ge hx hb d_M_count_230 (tgt := 253) rfl (fun hc => ?_) (fun hc => ?_)
      · have hf := (if_pos hc).symm.trans hf
        refine lv_iload_n hx hb d_M_count_253 rfl (lv_at hl 2 rfl) ?_
        exact zr_iret G hw hr hlocks hf hQ d_M_count_254
      · have hf := (if_neg hc).symm.trans hf
        refine lv_aload_n hx hb d_M_count_233 rfl (lv_at hl 0 rfl) ?_
        refine lv_iload_n hx hb d_M_count_234 rfl (lv_at hl 3 rfl) ?_
        obtain ⟨r19, σ18, hc20, hf⟩ := zq_cs hf
        refine zr_ci hw (zr_runV (rest := []) (ci := 8) (o := 1) G hw [.int x3] (zc_M_sortOf hJ hc20) (cwV 1 hts (zs_gV zm_749 zm_750 zm_751 zm_551 zm_748) rfl rfl rfl (by decide +kernel) ⟨Nat.le_trans (by decide) hR1, Nat.le_trans (by decide) hR2⟩) rfl rfl rfl hl.1 (Nat.le_of_ble_eq_true rfl) d_M_count_235 ⟨Nat.zero_le _, Nat.zero_le _⟩) (fun H locs hw => ?_)
        refine lv_iload_n hx hb d_M_count_238 rfl (lv_at hl 1 rfl) ?_
        refine lv_iconst (v := 2) hx hb d_M_count_239 (by decide) ?_
        refine lv_isub hx hb d_M_count_240 ?_
        refine lv_icmp_ne hx hb d_M_count_241 (tgt := 247) rfl (fun hc => ?_) (fun hc => ?_)
        · have hf := (if_neg hc).symm.trans hf
          exact K247 (zf_M_count_225 F n) ih x1 x2 x3 σ18 H locs ls hf hw (lv_sub hl [0, 1, 2, 3] rfl)
        · have hf := (if_pos hc).symm.trans hf
          obtain ⟨v21, e_v21, hf⟩ := zq_ss hf
          refine lv_iinc (v := v21) hx hb d_M_count_244 hl (k := 2) rfl (zq_inc (k := 1) (by decide) e_v21) (by decide) rfl (fun ls hl => ?_)
          have hl : lv_has ls 7 [(2, .int v21), (0, .ref (ad 1)), (1, .int x1), (3, .int x3)] := hl
          exact K247 (zf_M_count_225 F n) ih x1 v21 x3 σ18 H locs ls hf hw (lv_sub hl [1, 2, 0, 3] rfl)
  have K171 : ∀ (k83 : Int32 → Int32 → zs_S → Option (Int32 × zs_S)) (hk83 : ∀ (x2 : Int32) (x3 : Int32) (σ : zs_S) (H : Heap) (locs : List Loc) (ls : Array Slot), k83 x2 x3 σ = some q → zs_I 1 D cA ad A s σ H locs → lv_has ls 7 [(0, .ref (ad 1)), (2, .int x2), (3, .int x3)] → W p l e RR s m args below meth c H locs 0 0 QQ (F0 m 83 ls [])) (k99 : Int32 → Int32 → Int32 → zs_S → Option (Int32 × zs_S)) (hk99 : ∀ (x2 : Int32) (x3 : Int32) (x4 : Int32) (σ : zs_S) (H : Heap) (locs : List Loc) (ls : Array Slot), k99 x2 x3 x4 σ = some q → zs_I 1 D cA ad A s σ H locs → lv_has ls 7 [(0, .ref (ad 1)), (2, .int x2), (3, .int x3), (4, .int x4)] → W p l e RR s m args below meth c H locs 0 0 QQ (F0 m 99 ls [])) (x2 : Int32) (x3 : Int32) (x4 : Int32) (σ : zs_S) (H : Heap) (locs : List Loc) (ls : Array Slot), zf_M_count_171 F k83 k99 x2 x3 x4 σ = some q → zs_I 1 D cA ad A s σ H locs → lv_has ls 7 [(0, .ref (ad 1)), (2, .int x2), (3, .int x3), (4, .int x4)] → W p l e RR s m args below meth c H locs 0 0 QQ (F0 m 171 ls []) := by
    intro k83 hk83 k99 hk99 x2 x3 x4 σ H locs ls hf hw hl
    unfold zf_M_count_171 at hf
    obtain ⟨v32, e_v32, hf⟩ := zq_ss hf
    refine lv_iinc (v := v32) hx hb d_M_count_171 hl (k := 3) rfl (zq_inc (k := 1) (by decide) e_v32) (by decide) rfl (fun ls hl => ?_)
    have hl : lv_has ls 7 [(4, .int v32), (0, .ref (ad 1)), (2, .int x2), (3, .int x3)] := hl
    refine lv_goto hx hb d_M_count_174 (tgt := 99) rfl ?_
    exact hk99 x2 x3 v32 σ H locs ls hf hw (lv_sub hl [1, 2, 3, 0] rfl)
  have K154 : ∀ (k83 : Int32 → Int32 → zs_S → Option (Int32 × zs_S)) (hk83 : ∀ (x2 : Int32) (x3 : Int32) (σ : zs_S) (H : Heap) (locs : List Loc) (ls : Array Slot), k83 x2 x3 σ = some q → zs_I 1 D cA ad A s σ H locs → lv_has ls 7 [(0, .ref (ad 1)), (2, .int x2), (3, .int x3)] → W p l e RR s m args below meth c H locs 0 0 QQ (F0 m 83 ls [])) (k99 : Int32 → Int32 → Int32 → zs_S → Option (Int32 × zs_S)) (hk99 : ∀ (x2 : Int32) (x3 : Int32) (x4 : Int32) (σ : zs_S) (H : Heap) (locs : List Loc) (ls : Array Slot), k99 x2 x3 x4 σ = some q → zs_I 1 D cA ad A s σ H locs → lv_has ls 7 [(0, .ref (ad 1)), (2, .int x2), (3, .int x3), (4, .int x4)] → W p l e RR s m args below meth c H locs 0 0 QQ (F0 m 99 ls [])) (k123 : Int32 → Int32 → Int32 → Int32 → Int32 → zs_S → Option (Int32 × zs_S)) (hk123 : ∀ (x2 : Int32) (x3 : Int32) (x4 : Int32) (x5 : Int32) (x6 : Int32) (σ : zs_S) (H : Heap) (locs : List Loc) (ls : Array Slot), k123 x2 x3 x4 x5 x6 σ = some q → zs_I 1 D cA ad A s σ H locs → lv_has ls 7 [(0, .ref (ad 1)), (2, .int x2), (3, .int x3), (4, .int x4), (5, .int x5), (6, .int x6)] → W p l e RR s m args below meth c H locs 0 0 QQ (F0 m 123 ls [])) (x2 : Int32) (x3 : Int32) (x4 : Int32) (x6 : Int32) (t0 : Int32) (t1 : Int32) (σ : zs_S) (H : Heap) (locs : List Loc) (ls : Array Slot), zf_M_count_154 F k83 k99 k123 x2 x3 x4 x6 t0 t1 σ = some q → zs_I 1 D cA ad A s σ H locs → lv_has ls 7 [(0, .ref (ad 1)), (2, .int x2), (3, .int x3), (4, .int x4), (6, .int x6)] → W p l e RR s m args below meth c H locs 0 0 QQ (F0 m 154 ls [.int t0, .int t1]) := by
    intro k83 hk83 k99 hk99 k123 hk123 x2 x3 x4 x6 t0 t1 σ H locs ls hf hw hl
    unfold zf_M_count_154 at hf
    refine lv_iand hx hb d_M_count_154 ?_
    refine lv_topi (fun v30 e_v30 => ?_)
    have hf := zq_vs e_v30 hf
    refine lv_istore hx hb d_M_count_155 hl (by decide) rfl (fun ls hl => ?_)
    have hl : lv_has ls 7 [(5, .int v30), (0, .ref (ad 1)), (2, .int x2), (3, .int x3), (4, .int x4), (6, .int x6)] := hl
    obtain ⟨v31, e_v31, hf⟩ := zq_ss hf
    refine lv_iinc (v := v31) hx hb d_M_count_157 hl (k := 5) rfl (zq_inc (k := 1) (by decide) e_v31) (by decide) rfl (fun ls hl => ?_)
    have hl : lv_has ls 7 [(6, .int v31), (5, .int v30), (0, .ref (ad 1)), (2, .int x2), (3, .int x3), (4, .int x4)] := hl
    refine lv_goto hx hb d_M_count_160 (tgt := 123) rfl ?_
    exact hk123 x2 x3 x4 v30 v31 σ H locs ls hf hw (lv_sub hl [2, 3, 4, 5, 1, 0] rfl)
  have K123 : ∀ (k83 : Int32 → Int32 → zs_S → Option (Int32 × zs_S)) (hk83 : ∀ (x2 : Int32) (x3 : Int32) (σ : zs_S) (H : Heap) (locs : List Loc) (ls : Array Slot), k83 x2 x3 σ = some q → zs_I 1 D cA ad A s σ H locs → lv_has ls 7 [(0, .ref (ad 1)), (2, .int x2), (3, .int x3)] → W p l e RR s m args below meth c H locs 0 0 QQ (F0 m 83 ls [])) (k99 : Int32 → Int32 → Int32 → zs_S → Option (Int32 × zs_S)) (hk99 : ∀ (x2 : Int32) (x3 : Int32) (x4 : Int32) (σ : zs_S) (H : Heap) (locs : List Loc) (ls : Array Slot), k99 x2 x3 x4 σ = some q → zs_I 1 D cA ad A s σ H locs → lv_has ls 7 [(0, .ref (ad 1)), (2, .int x2), (3, .int x3), (4, .int x4)] → W p l e RR s m args below meth c H locs 0 0 QQ (F0 m 99 ls [])) (n : Nat) (x2 : Int32) (x3 : Int32) (x4 : Int32) (x5 : Int32) (x6 : Int32) (σ : zs_S) (H : Heap) (locs : List Loc) (ls : Array Slot), zf_M_count_123 F k83 k99 n x2 x3 x4 x5 x6 σ = some q → zs_I 1 D cA ad A s σ H locs → lv_has ls 7 [(0, .ref (ad 1)), (2, .int x2), (3, .int x3), (4, .int x4), (5, .int x5), (6, .int x6)] → W p l e RR s m args below meth c H locs 0 0 QQ (F0 m 123 ls []) := by
    intro k83 hk83 k99 hk99 n
    induction n with
    | zero => intro x2 x3 x4 x5 x6 σ H locs ls hf hw hl; exact nomatch (show (none : Option (Int32 × zs_S)) = some q from hf)
    | succ n ih =>
      intro x2 x3 x4 x5 x6 σ H locs ls hf hw hl
      rw [zf_M_count_123] at hf
      refine lv_iload hx hb d_M_count_123 (lv_at hl 5 rfl) ?_
      refine lv_iload hx hb d_M_count_125 (lv_at hl 3 rfl) ?_
      refine lv_icmp_ge hx hb d_M_count_127 (tgt := 163) rfl (fun hc => ?_) (fun hc => ?_)
      · have hf := (if_pos hc).symm.trans hf
        refine lv_iload hx hb d_M_count_163 (lv_at hl 4 rfl) ?_
        refine lv_if_eq hx hb d_M_count_165 (tgt := 171) rfl (fun hc => ?_) (fun hc => ?_)
        · have hf := (if_pos hc).symm.trans hf
          exact K171 k83 hk83 k99 hk99 x2 x3 x4 σ H locs ls hf hw (lv_sub hl [0, 1, 2, 3] rfl)
        · have hf := (if_neg hc).symm.trans hf
          obtain ⟨v27, e_v27, hf⟩ := zq_ss hf
          refine lv_iinc (v := v27) hx hb d_M_count_168 hl (k := 1) rfl (zq_inc (k := 1) (by decide) e_v27) (by decide) rfl (fun ls hl => ?_)
          have hl : lv_has ls 7 [(2, .int v27), (0, .ref (ad 1)), (3, .int x3), (4, .int x4), (5, .int x5), (6, .int x6)] := hl
          exact K171 k83 hk83 k99 hk99 v27 x3 x4 σ H locs ls hf hw (lv_sub hl [1, 0, 2, 3] rfl)
      · have hf := (if_neg hc).symm.trans hf
        refine lv_iload hx hb d_M_count_130 (lv_at hl 4 rfl) ?_
        refine lv_aload_n hx hb d_M_count_132 rfl (lv_at hl 0 rfl) ?_
        refine zr_get (ci := 8) G hw 1 22 zi_8 rfl rfl rfl (by decide) zm_640 (fun _ h => h) (v := .ref (ad 63)) rfl d_M_count_133 ?_
        refine lv_iload hx hb d_M_count_136 (lv_at hl 5 rfl) ?_
        obtain ⟨hi28, hf⟩ := zq_gs hf
        refine zr_iald G hw 63 rfl rfl hi28 d_M_count_138 ?_
        refine lv_aload_n hx hb d_M_count_139 rfl (lv_at hl 0 rfl) ?_
        refine zr_get (ci := 8) G hw 1 22 zi_8 rfl rfl rfl (by decide) zm_640 (fun _ h => h) (v := .ref (ad 63)) rfl d_M_count_140 ?_
        refine lv_iload hx hb d_M_count_143 (lv_at hl 3 rfl) ?_
        obtain ⟨hi29, hf⟩ := zq_gs hf
        refine zr_iald G hw 63 rfl rfl hi29 d_M_count_145 ?_
        refine lv_icmp_eq hx hb d_M_count_146 (tgt := 153) rfl (fun hc => ?_) (fun hc => ?_)
        · have hf := (if_pos hc).symm.trans hf
          refine lv_iconst (v := 0) hx hb d_M_count_153 (by decide) ?_
          exact K154 k83 hk83 k99 hk99 (zf_M_count_123 F k83 k99 n) ih x2 x3 x4 x6 0 x5 σ H locs ls hf hw (lv_sub hl [0, 1, 2, 3, 5] rfl)
        · have hf := (if_neg hc).symm.trans hf
          refine lv_iconst (v := 1) hx hb d_M_count_149 (by decide) ?_
          refine lv_goto hx hb d_M_count_150 (tgt := 154) rfl ?_
          exact K154 k83 hk83 k99 hk99 (zf_M_count_123 F k83 k99 n) ih x2 x3 x4 x6 1 x5 σ H locs ls hf hw (lv_sub hl [0, 1, 2, 3, 5] rfl)
  have K99 : ∀ (k83 : Int32 → Int32 → zs_S → Option (Int32 × zs_S)) (hk83 : ∀ (x2 : Int32) (x3 : Int32) (σ : zs_S) (H : Heap) (locs : List Loc) (ls : Array Slot), k83 x2 x3 σ = some q → zs_I 1 D cA ad A s σ H locs → lv_has ls 7 [(0, .ref (ad 1)), (2, .int x2), (3, .int x3)] → W p l e RR s m args below meth c H locs 0 0 QQ (F0 m 83 ls [])) (n : Nat) (x2 : Int32) (x3 : Int32) (x4 : Int32) (σ : zs_S) (H : Heap) (locs : List Loc) (ls : Array Slot), zf_M_count_99 F k83 n x2 x3 x4 σ = some q → zs_I 1 D cA ad A s σ H locs → lv_has ls 7 [(0, .ref (ad 1)), (2, .int x2), (3, .int x3), (4, .int x4)] → W p l e RR s m args below meth c H locs 0 0 QQ (F0 m 99 ls []) := by
    intro k83 hk83 n
    induction n with
    | zero => intro x2 x3 x4 σ H locs ls hf hw hl; exact nomatch (show (none : Option (Int32 × zs_S)) = some q from hf)
    | succ n ih =>
      intro x2 x3 x4 σ H locs ls hf hw hl
      rw [zf_M_count_99] at hf
      refine lv_iload hx hb d_M_count_99 (lv_at hl 3 rfl) ?_
      refine lv_aload_n hx hb d_M_count_101 rfl (lv_at hl 0 rfl) ?_
      refine zr_get (ci := 8) G hw 1 21 zi_8 rfl rfl rfl (by decide) zm_743 (fun _ h => h) (v := .ref (ad 62)) rfl d_M_count_102 ?_
      refine lv_iload_n hx hb d_M_count_105 rfl (lv_at hl 2 rfl) ?_
      refine lv_iconst (v := 1) hx hb d_M_count_106 (by decide) ?_
      refine lv_iadd hx hb d_M_count_107 ?_
      obtain ⟨hi22, hf⟩ := zq_gs hf
      refine zr_iald G hw 62 rfl rfl hi22 d_M_count_108 ?_
      refine lv_icmp_ge hx hb d_M_count_109 (tgt := 177) rfl (fun hc => ?_) (fun hc => ?_)
      · have hf := (if_pos hc).symm.trans hf
        obtain ⟨v23, e_v23, hf⟩ := zq_ss hf
        refine lv_iinc (v := v23) hx hb d_M_count_177 hl (k := 2) rfl (zq_inc (k := 1) (by decide) e_v23) (by decide) rfl (fun ls hl => ?_)
        have hl : lv_has ls 7 [(3, .int v23), (0, .ref (ad 1)), (2, .int x2), (4, .int x4)] := hl
        refine lv_goto hx hb d_M_count_180 (tgt := 83) rfl ?_
        exact hk83 x2 v23 σ H locs ls hf hw (lv_sub hl [1, 2, 0] rfl)
      · have hf := (if_neg hc).symm.trans hf
        refine lv_iconst (v := 1) hx hb d_M_count_112 (by decide) ?_
        refine lv_istore hx hb d_M_count_113 hl (by decide) rfl (fun ls hl => ?_)
        have hl : lv_has ls 7 [(5, .int 1), (0, .ref (ad 1)), (2, .int x2), (3, .int x3), (4, .int x4)] := hl
        refine lv_aload_n hx hb d_M_count_115 rfl (lv_at hl 1 rfl) ?_
        refine zr_get (ci := 8) G hw 1 21 zi_8 rfl rfl rfl (by decide) zm_743 (fun _ h => h) (v := .ref (ad 62)) rfl d_M_count_116 ?_
        refine lv_iload_n hx hb d_M_count_119 rfl (lv_at hl 3 rfl) ?_
        obtain ⟨hi24, hf⟩ := zq_gs hf
        refine zr_iald G hw 62 rfl rfl hi24 d_M_count_120 ?_
        refine lv_topi (fun v25 e_v25 => ?_)
        have hf := zq_vs e_v25 hf
        refine lv_istore hx hb d_M_count_121 hl (by decide) rfl (fun ls hl => ?_)
        have hl : lv_has ls 7 [(6, .int v25), (5, .int 1), (0, .ref (ad 1)), (2, .int x2), (3, .int x3), (4, .int x4)] := hl
        exact K123 k83 hk83 (zf_M_count_99 F k83 n) ih F x2 x3 x4 1 v25 σ H locs ls hf hw (lv_sub hl [2, 3, 4, 5, 1, 0] rfl)
  have K83 : ∀ (n : Nat) (x2 : Int32) (x3 : Int32) (σ : zs_S) (H : Heap) (locs : List Loc) (ls : Array Slot), zf_M_count_83 F n x2 x3 σ = some q → zs_I 1 D cA ad A s σ H locs → lv_has ls 7 [(0, .ref (ad 1)), (2, .int x2), (3, .int x3)] → W p l e RR s m args below meth c H locs 0 0 QQ (F0 m 83 ls []) := by
    intro  n
    induction n with
    | zero => intro x2 x3 σ H locs ls hf hw hl; exact nomatch (show (none : Option (Int32 × zs_S)) = some q from hf)
    | succ n ih =>
      intro x2 x3 σ H locs ls hf hw hl
      rw [zf_M_count_83] at hf
      refine lv_iload_n hx hb d_M_count_83 rfl (lv_at hl 2 rfl) ?_
      refine lv_aload_n hx hb d_M_count_84 rfl (lv_at hl 0 rfl) ?_
      refine zr_get (ci := 8) G hw 1 23 zi_8 rfl rfl rfl (by decide) zm_629 (fun _ h => h) (v := .int (zs_i σ 1 23)) rfl d_M_count_85 ?_
      refine lv_icmp_ge hx hb d_M_count_88 (tgt := 183) rfl (fun hc => ?_) (fun hc => ?_)
      · have hf := (if_pos hc).symm.trans hf
        refine lv_iload_n hx hb d_M_count_183 rfl (lv_at hl 1 rfl) ?_
        exact zr_iret G hw hr hlocks hf hQ d_M_count_184
      · have hf := (if_neg hc).symm.trans hf
        refine lv_aload_n hx hb d_M_count_91 rfl (lv_at hl 0 rfl) ?_
        refine zr_get (ci := 8) G hw 1 21 zi_8 rfl rfl rfl (by decide) zm_743 (fun _ h => h) (v := .ref (ad 62)) rfl d_M_count_92 ?_
        refine lv_iload_n hx hb d_M_count_95 rfl (lv_at hl 2 rfl) ?_
        obtain ⟨hi16, hf⟩ := zq_gs hf
        refine zr_iald G hw 62 rfl rfl hi16 d_M_count_96 ?_
        refine lv_topi (fun v17 e_v17 => ?_)
        have hf := zq_vs e_v17 hf
        refine lv_istore hx hb d_M_count_97 hl (by decide) rfl (fun ls hl => ?_)
        have hl : lv_has ls 7 [(4, .int v17), (0, .ref (ad 1)), (2, .int x2), (3, .int x3)] := hl
        exact K99 (zf_M_count_83 F n) ih F x2 x3 v17 σ H locs ls hf hw (lv_sub hl [1, 2, 3, 0] rfl)
  unfold zf_M_count at hf
  refine lv_iload_n hx hb d_M_count_0 rfl (lv_at hl 1 rfl) ?_
  refine lv_iconst (v := 0) hx hb d_M_count_1 (by decide) ?_
  refine lv_bipush (v := 8) hx hb d_M_count_2 (by decide) ?_
  obtain ⟨r2, σ1, hc3, hf⟩ := zq_cs hf
  refine zr_ci hw (zr_runS (rest := []) G hw [.int x1, .int 0, .int 8] (zc_M_in hJ hc3) (va_cwS 3 hts (zs_gS zm_614 zm_615 zm_551 zm_613) rfl rfl rfl (by decide +kernel) ⟨Nat.le_trans (by decide) hR1, Nat.le_trans (by decide) hR2⟩) rfl hl.1 (Nat.le_of_ble_eq_true rfl) d_M_count_4 ⟨Nat.zero_le _, Nat.zero_le _⟩) (fun H locs hw => ?_)
  refine lv_if_ne hx hb d_M_count_7 (tgt := 12) rfl (fun hc => ?_) (fun hc => ?_)
  · have hf := (if_neg hc).symm.trans hf
    refine lv_aload_n hx hb d_M_count_12 rfl (lv_at hl 0 rfl) ?_
    refine zr_get (ci := 8) G hw 1 4 zi_8 rfl rfl rfl (by decide) zm_741 (fun _ h => h) (v := .int (zs_i σ1 1 4)) rfl d_M_count_13 ?_
    refine lv_if_ne hx hb d_M_count_16 (tgt := 21) rfl (fun hc => ?_) (fun hc => ?_)
    · have hf := (if_neg hc).symm.trans hf
      refine lv_iconst (v := 0) hx hb d_M_count_21 (by decide) ?_
      refine lv_istore_n hx hb d_M_count_22 rfl hl (by decide) rfl (fun ls hl => ?_)
      have hl : lv_has ls 7 [(2, .int 0), (0, .ref (ad 1)), (1, .int x1)] := hl
      refine lv_iload_n hx hb d_M_count_23 rfl (lv_at hl 2 rfl) ?_
      by_cases hc0 : x1 = 0
      · have hf := (if_pos hc0).symm.trans hf
        refine lv_tableIn hx hb d_M_count_24 (tgt := 76) (by rw [hc0]; decide) (by rw [hc0]; decide) (by rw [hc0]; rfl) rfl ?_
        refine lv_aload_n hx hb d_M_count_76 rfl (lv_at hl 1 rfl) ?_
        refine zr_get (ci := 8) G hw 1 23 zi_8 rfl rfl rfl (by decide) zm_629 (fun _ h => h) (v := .int (zs_i σ1 1 23)) rfl d_M_count_77 ?_
        exact zr_iret G hw hr hlocks hf hQ d_M_count_80
      have hf := (if_neg hc0).symm.trans hf
      by_cases hc1 : x1 = 1
      · have hf := (if_pos hc1).symm.trans hf
        refine lv_tableIn hx hb d_M_count_24 (tgt := 81) (by rw [hc1]; decide) (by rw [hc1]; decide) (by rw [hc1]; rfl) rfl ?_
        refine lv_iconst (v := 0) hx hb d_M_count_81 (by decide) ?_
        refine lv_istore_n hx hb d_M_count_82 rfl hl (by decide) rfl (fun ls hl => ?_)
        have hl : lv_has ls 7 [(3, .int 0), (2, .int 0), (0, .ref (ad 1)), (1, .int x1)] := hl
        exact K83 F 0 0 σ1 H locs ls hf hw (lv_sub hl [2, 1, 0] rfl)
      have hf := (if_neg hc1).symm.trans hf
      by_cases hc2 : x1 = 2
      · have hf := (if_pos hc2).symm.trans hf
        refine lv_tableIn hx hb d_M_count_24 (tgt := 223) (by rw [hc2]; decide) (by rw [hc2]; decide) (by rw [hc2]; rfl) rfl ?_
        refine lv_iconst (v := 0) hx hb d_M_count_223 (by decide) ?_
        refine lv_istore_n hx hb d_M_count_224 rfl hl (by decide) rfl (fun ls hl => ?_)
        have hl : lv_has ls 7 [(3, .int 0), (2, .int 0), (0, .ref (ad 1)), (1, .int x1)] := hl
        exact K225 F x1 0 0 σ1 H locs ls hf hw (lv_sub hl [2, 3, 1, 0] rfl)
      have hf := (if_neg hc2).symm.trans hf
      by_cases hc3 : x1 = 3
      · have hf := (if_pos hc3).symm.trans hf
        refine lv_tableIn hx hb d_M_count_24 (tgt := 223) (by rw [hc3]; decide) (by rw [hc3]; decide) (by rw [hc3]; rfl) rfl ?_
        refine lv_iconst (v := 0) hx hb d_M_count_223 (by decide) ?_
        refine lv_istore_n hx hb d_M_count_224 rfl hl (by decide) rfl (fun ls hl => ?_)
        have hl : lv_has ls 7 [(3, .int 0), (2, .int 0), (0, .ref (ad 1)), (1, .int x1)] := hl
        exact K225 F x1 0 0 σ1 H locs ls hf hw (lv_sub hl [2, 3, 1, 0] rfl)
      have hf := (if_neg hc3).symm.trans hf
      by_cases hc4 : x1 = 4
      · have hf := (if_pos hc4).symm.trans hf
        refine lv_tableIn hx hb d_M_count_24 (tgt := 223) (by rw [hc4]; decide) (by rw [hc4]; decide) (by rw [hc4]; rfl) rfl ?_
        refine lv_iconst (v := 0) hx hb d_M_count_223 (by decide) ?_
        refine lv_istore_n hx hb d_M_count_224 rfl hl (by decide) rfl (fun ls hl => ?_)
        have hl : lv_has ls 7 [(3, .int 0), (2, .int 0), (0, .ref (ad 1)), (1, .int x1)] := hl
        exact K225 F x1 0 0 σ1 H locs ls hf hw (lv_sub hl [2, 3, 1, 0] rfl)
      have hf := (if_neg hc4).symm.trans hf
      by_cases hc5 : x1 = 5
      · have hf := (if_pos hc5).symm.trans hf
        refine lv_tableIn hx hb d_M_count_24 (tgt := 185) (by rw [hc5]; decide) (by rw [hc5]; decide) (by rw [hc5]; rfl) rfl ?_
        refine lv_aload_n hx hb d_M_count_185 rfl (lv_at hl 1 rfl) ?_
        obtain ⟨q4, e_q4, h_q4, hf⟩ := zq_qs hf
        refine zr_get (ci := 8) G hw 1 2 zi_8 rfl rfl rfl (by decide) zm_616 (fun _ h => h) (v := .ref (ad q4)) (zs_fr rfl e_q4 h_q4) d_M_count_186 ?_
        obtain ⟨hs5, hf⟩ := zq_gs hf
        have hs5 := zq_ks hs5
        refine zr_get (ci := 9) G hw q4 5 zi_9 hs5 rfl rfl (by decide) zm_646 (fun _ h => h) (v := .int (zs_i σ1 q4 5)) rfl d_M_count_189 ?_
        exact zr_iret G hw hr hlocks hf hQ d_M_count_192
      have hf := (if_neg hc5).symm.trans hf
      by_cases hc6 : x1 = 6
      · have hf := (if_pos hc6).symm.trans hf
        refine lv_tableIn hx hb d_M_count_24 (tgt := 193) (by rw [hc6]; decide) (by rw [hc6]; decide) (by rw [hc6]; rfl) rfl ?_
        refine lv_aload_n hx hb d_M_count_193 rfl (lv_at hl 1 rfl) ?_
        obtain ⟨q6, e_q6, h_q6, hf⟩ := zq_qs hf
        refine zr_get (ci := 8) G hw 1 2 zi_8 rfl rfl rfl (by decide) zm_616 (fun _ h => h) (v := .ref (ad q6)) (zs_fr rfl e_q6 h_q6) d_M_count_194 ?_
        obtain ⟨hs7, hf⟩ := zq_gs hf
        have hs7 := zq_ks hs7
        obtain ⟨q8, e_q8, h_q8, hf⟩ := zq_qs hf
        refine zr_get (ci := 9) G hw q6 0 zi_9 hs7 rfl rfl (by decide) zm_591 (fun _ h => h) (v := .ref (ad q8)) (zs_fs rfl e_q8 h_q8) d_M_count_197 ?_
        obtain ⟨hs9, hf⟩ := zq_gs hf
        have hs9 := zq_ks hs9
        refine zr_get (ci := 10) G hw q8 2 zi_10 hs9 rfl rfl (by decide) zm_596 (fun _ h => h) (v := .int (zs_i σ1 q8 2)) rfl d_M_count_200 ?_
        exact zr_iret G hw hr hlocks hf hQ d_M_count_203
      have hf := (if_neg hc6).symm.trans hf
      by_cases hc7 : x1 = 7
      · have hf := (if_pos hc7).symm.trans hf
        refine lv_tableIn hx hb d_M_count_24 (tgt := 204) (by rw [hc7]; decide) (by rw [hc7]; decide) (by rw [hc7]; rfl) rfl ?_
        refine lv_aload_n hx hb d_M_count_204 rfl (lv_at hl 1 rfl) ?_
        obtain ⟨q10, e_q10, h_q10, hf⟩ := zq_qs hf
        refine zr_get (ci := 8) G hw 1 2 zi_8 rfl rfl rfl (by decide) zm_616 (fun _ h => h) (v := .ref (ad q10)) (zs_fr rfl e_q10 h_q10) d_M_count_205 ?_
        obtain ⟨hs11, hf⟩ := zq_gs hf
        have hs11 := zq_ks hs11
        obtain ⟨q12, e_q12, h_q12, hf⟩ := zq_qs hf
        refine zr_get (ci := 9) G hw q10 1 zi_9 hs11 rfl rfl (by decide) zm_590 (fun _ h => h) (v := .ref (ad q12)) (zs_fs rfl e_q12 h_q12) d_M_count_208 ?_
        obtain ⟨hs13, hf⟩ := zq_gs hf
        have hs13 := zq_ks hs13
        refine zr_get (ci := 10) G hw q12 2 zi_10 hs13 rfl rfl (by decide) zm_596 (fun _ h => h) (v := .int (zs_i σ1 q12 2)) rfl d_M_count_211 ?_
        exact zr_iret G hw hr hlocks hf hQ d_M_count_214
      have hf := (if_neg hc7).symm.trans hf
      by_cases hc8 : x1 = 8
      · have hf := (if_pos hc8).symm.trans hf
        refine lv_tableIn hx hb d_M_count_24 (tgt := 215) (by rw [hc8]; decide) (by rw [hc8]; decide) (by rw [hc8]; rfl) rfl ?_
        refine lv_aload_n hx hb d_M_count_215 rfl (lv_at hl 1 rfl) ?_
        obtain ⟨q14, e_q14, h_q14, hf⟩ := zq_qs hf
        refine zr_get (ci := 8) G hw 1 2 zi_8 rfl rfl rfl (by decide) zm_616 (fun _ h => h) (v := .ref (ad q14)) (zs_fr rfl e_q14 h_q14) d_M_count_216 ?_
        obtain ⟨hs15, hf⟩ := zq_gs hf
        have hs15 := zq_ks hs15
        refine zr_get (ci := 9) G hw q14 6 zi_9 hs15 rfl rfl (by decide) zm_722 (fun _ h => h) (v := .int (zs_i σ1 q14 6)) rfl d_M_count_219 ?_
        exact zr_iret G hw hr hlocks hf hQ d_M_count_222
      have hf := (if_neg hc8).symm.trans hf
      refine lv_tableOut hx hb d_M_count_24 (tgt := 223) (by have g0 := zq_o1 (lo := 0) (by decide) hc0; have g1 := zq_o1 (lo := 1) (by decide) hc1; have g2 := zq_o1 (lo := 2) (by decide) hc2; have g3 := zq_o1 (lo := 3) (by decide) hc3; have g4 := zq_o1 (lo := 4) (by decide) hc4; have g5 := zq_o1 (lo := 5) (by decide) hc5; have g6 := zq_o1 (lo := 6) (by decide) hc6; have g7 := zq_o1 (lo := 7) (by decide) hc7; have g8 := zq_o1 (lo := 8) (by decide) hc8; omega) rfl ?_
      refine lv_iconst (v := 0) hx hb d_M_count_223 (by decide) ?_
      refine lv_istore_n hx hb d_M_count_224 rfl hl (by decide) rfl (fun ls hl => ?_)
      have hl : lv_has ls 7 [(3, .int 0), (2, .int 0), (0, .ref (ad 1)), (1, .int x1)] := hl
      exact K225 F x1 0 0 σ1 H locs ls hf hw (lv_sub hl [2, 3, 1, 0] rfl)
    · have hf := (if_pos hc).symm.trans hf
      refine lv_iconst (v := 0) hx hb d_M_count_19 (by decide) ?_
      exact zr_iret G hw hr hlocks hf hQ d_M_count_20
  · have hf := (if_pos hc).symm.trans hf
    refine lv_iconst (v := (-1)) hx hb d_M_count_10 (by decide) ?_
    exact zr_iret G hw hr hlocks hf hQ d_M_count_11
/-! ScheduleCheckModel.first -/
def y_M_first : MethodName := ⟨"ScheduleCheckModel","first","(I)I"⟩
theorem d_M_first_0 : decode prog_13_method_42_code 0 = .ok (.iload_n 1, 1) := by decide +kernel
theorem d_M_first_1 : decode prog_13_method_42_code 1 = .ok (.iconst 0, 1) := by decide +kernel
theorem d_M_first_2 : decode prog_13_method_42_code 2 = .ok (.iconst 2, 1) := by decide +kernel
theorem d_M_first_3 : decode prog_13_method_42_code 3 = .ok (.invokestatic 62, 3) := by decide +kernel
theorem d_M_first_6 : decode prog_13_method_42_code 6 = .ok (.ifCond .ne 5, 3) := by decide +kernel
theorem d_M_first_9 : decode prog_13_method_42_code 9 = .ok (.iconst (-1), 1) := by decide +kernel
theorem d_M_first_10 : decode prog_13_method_42_code 10 = .ok (.ireturn, 1) := by decide +kernel
theorem d_M_first_11 : decode prog_13_method_42_code 11 = .ok (.iconst 0, 1) := by decide +kernel
theorem d_M_first_12 : decode prog_13_method_42_code 12 = .ok (.istore_n 2, 1) := by decide +kernel
theorem d_M_first_13 : decode prog_13_method_42_code 13 = .ok (.iload_n 2, 1) := by decide +kernel
theorem d_M_first_14 : decode prog_13_method_42_code 14 = .ok (.aload_n 0, 1) := by decide +kernel
theorem d_M_first_15 : decode prog_13_method_42_code 15 = .ok (.getfield 304, 3) := by decide +kernel
theorem d_M_first_18 : decode prog_13_method_42_code 18 = .ok (.if_icmp .ge 20, 3) := by decide +kernel
theorem d_M_first_21 : decode prog_13_method_42_code 21 = .ok (.aload_n 0, 1) := by decide +kernel
theorem d_M_first_22 : decode prog_13_method_42_code 22 = .ok (.iload_n 2, 1) := by decide +kernel
theorem d_M_first_23 : decode prog_13_method_42_code 23 = .ok (.invokevirtual 363, 3) := by decide +kernel
theorem d_M_first_26 : decode prog_13_method_42_code 26 = .ok (.iload_n 1, 1) := by decide +kernel
theorem d_M_first_27 : decode prog_13_method_42_code 27 = .ok (.if_icmp .ne 5, 3) := by decide +kernel
theorem d_M_first_30 : decode prog_13_method_42_code 30 = .ok (.iload_n 2, 1) := by decide +kernel
theorem d_M_first_31 : decode prog_13_method_42_code 31 = .ok (.ireturn, 1) := by decide +kernel
theorem d_M_first_32 : decode prog_13_method_42_code 32 = .ok (.iinc 2 1, 3) := by decide +kernel
theorem d_M_first_35 : decode prog_13_method_42_code 35 = .ok (.goto (-22), 3) := by decide +kernel
theorem d_M_first_38 : decode prog_13_method_42_code 38 = .ok (.bipush (-2), 2) := by decide +kernel
theorem d_M_first_40 : decode prog_13_method_42_code 40 = .ok (.ireturn, 1) := by decide +kernel
def zf_M_first_13 (F : Nat)  : Nat → Int32 → Int32 → zs_S → Option (Int32 × zs_S)
  | 0, _, _, _ => none
  | n + 1, x1, x2, σ =>
    if (zs_i σ 1 23) ≤ x2 then (
      some ((-2), σ)
    ) else (
      zq_c (zf_M_sortOf F x2 σ) fun r5 σ4 =>
      if r5 = x1 then (
        some (x2, σ4)
      ) else (
        zq_v (x2 + 1) fun v7 =>
        (zf_M_first_13 F n) x1 v7 σ4
      )
    )
def zf_M_first (F : Nat) (x1 : Int32) (σ : zs_S) : Option (Int32 × zs_S) :=
  zq_c (zf_M_in F x1 0 2 σ) fun r2 σ1 =>
  if r2 = 0 then (
    some ((-1), σ1)
  ) else (
    zf_M_first_13 F F x1 0 σ1
  )
set_option maxHeartbeats 4000000 in
set_option maxRecDepth 100000 in
theorem zc_M_first {l : Launch} {D : va_G} {cA : Nat → ClassId} {ad : Nat → Nat} {A : Nat → Prop} {F : Nat} {x1 : Int32} {σ : zs_S} {q : Int32 × zs_S} (hJ : zs_J ad) (hf : zf_M_first F x1 σ = some q) : Met l y_M_first (.code y_M_first prog_13_method_42_code 3 (some .int) :: zd_ww) { frames := 3, cells := 0, slots := 0, locals := 105 } (va_Pc [.ref (ad 1), .int x1] (zs_U 1 D cA ad A σ)) (zs_Qi 1 D cA ad A q) 0 0 A := by
  refine Met.ofW (cc := prog_13_method_42_code) (maxL := 3) (ret := (some .int)) (by decide) rfl ?_
  intro p e s m args below meth c s₁ B hml hv
  obtain ⟨hargs, hP, hK, hD, hZ⟩ := hv
  have G : zs_G 1 p s m args c prog_13_method_42_code 3 "ScheduleCheckModel" D cA ad A := ⟨⟨B.exec, B.bytes, hml, findClass_of_methodNamed B.named, fun w h => atoms_spec B.pre w (List.mem_cons_of_mem _ h)⟩, hK, hJ, hZ⟩
  have hw : zs_I 1 D cA ad A s σ s.heap [] := ⟨hP, hD, va_S.rf⟩
  have hx := G.1.1
  have hb := G.1.2.1
  have hown := G.1.2.2.2.1
  have hts := G.1.2.2.2.2
  have hr := B.returns
  have hlocks := B.notSynchronized
  have he : entryFrame m args 3 = F0 m 0 ((lg_sl [.ref (ad 1), .int x1] ++ List.replicate (3 - (lg_sl [.ref (ad 1), .int x1]).length) Slot.unset).toArray) [] := by rw [hargs]; exact lg_entry_eq m _ 3
  have hl := lv_entry [.ref (ad 1), .int x1] (n := 3) (Nat.le_of_ble_eq_true rfl)
  rw [he]
  generalize (lg_sl [.ref (ad 1), .int x1] ++ List.replicate (3 - (lg_sl [.ref (ad 1), .int x1]).length) Slot.unset).toArray = ls at hl
  have hl : lv_has ls 3 [(0, .ref (ad 1)), (1, .int x1)] := hl
  obtain ⟨RR, hR⟩ : ∃ z, z = (headSpec (.code y_M_first prog_13_method_42_code 3 (some .int) :: zd_ww) { frames := 3, cells := 0, slots := 0, locals := 105 }).room := ⟨_, rfl⟩
  rw [← hR]
  obtain ⟨QQ, hQ⟩ : ∃ z, z = MQ below (zs_Qi 1 D cA ad A q) args s 0 0 A := ⟨_, rfl⟩
  rw [← hQ]
  have hR1 : 3 ≤ RR.frames := by rw [hR]; exact Nat.le_refl _
  have hR2 : 105 ≤ RR.locals := by rw [hR]; exact Nat.le_refl _
  generalize s.heap = H at hw ⊢
  generalize ([] : List Loc) = locs at hw ⊢
  have K13 : ∀ (n : Nat) (x1 : Int32) (x2 : Int32) (σ : zs_S) (H : Heap) (locs : List Loc) (ls : Array Slot), zf_M_first_13 F n x1 x2 σ = some q → zs_I 1 D cA ad A s σ H locs → lv_has ls 3 [(0, .ref (ad 1)), (1, .int x1), (2, .int x2)] → W p l e RR s m args below meth c H locs 0 0 QQ (F0 m 13 ls []) := by
    intro  n
    induction n with
    | zero => intro x1 x2 σ H locs ls hf hw hl; exact nomatch (show (none : Option (Int32 × zs_S)) = some q from hf)
    | succ n ih =>
      intro x1 x2 σ H locs ls hf hw hl
      rw [zf_M_first_13] at hf
      refine lv_iload_n hx hb d_M_first_13 rfl (lv_at hl 2 rfl) ?_
      refine lv_aload_n hx hb d_M_first_14 rfl (lv_at hl 0 rfl) ?_
      refine zr_get (ci := 8) G hw 1 23 zi_8 rfl rfl rfl (by decide) zm_629 (fun _ h => h) (v := .int (zs_i σ 1 23)) rfl d_M_first_15 ?_
      refine lv_icmp_ge hx hb d_M_first_18 (tgt := 38) rfl (fun hc => ?_) (fun hc => ?_)
      · have hf := (if_pos hc).symm.trans hf
        refine lv_bipush (v := (-2)) hx hb d_M_first_38 (by decide) ?_
        exact zr_iret G hw hr hlocks hf hQ d_M_first_40
      · have hf := (if_neg hc).symm.trans hf
        refine lv_aload_n hx hb d_M_first_21 rfl (lv_at hl 0 rfl) ?_
        refine lv_iload_n hx hb d_M_first_22 rfl (lv_at hl 2 rfl) ?_
        obtain ⟨r5, σ4, hc6, hf⟩ := zq_cs hf
        refine zr_ci hw (zr_runV (rest := []) (ci := 8) (o := 1) G hw [.int x2] (zc_M_sortOf hJ hc6) (cwV 1 hts (zs_gV zm_749 zm_750 zm_751 zm_551 zm_748) rfl rfl rfl (by decide +kernel) ⟨Nat.le_trans (by decide) hR1, Nat.le_trans (by decide) hR2⟩) rfl rfl rfl hl.1 (Nat.le_of_ble_eq_true rfl) d_M_first_23 ⟨Nat.zero_le _, Nat.zero_le _⟩) (fun H locs hw => ?_)
        refine lv_iload_n hx hb d_M_first_26 rfl (lv_at hl 1 rfl) ?_
        refine lv_icmp_ne hx hb d_M_first_27 (tgt := 32) rfl (fun hc => ?_) (fun hc => ?_)
        · have hf := (if_neg hc).symm.trans hf
          obtain ⟨v7, e_v7, hf⟩ := zq_ss hf
          refine lv_iinc (v := v7) hx hb d_M_first_32 hl (k := 2) rfl (zq_inc (k := 1) (by decide) e_v7) (by decide) rfl (fun ls hl => ?_)
          have hl : lv_has ls 3 [(2, .int v7), (0, .ref (ad 1)), (1, .int x1)] := hl
          refine lv_goto hx hb d_M_first_35 (tgt := 13) rfl ?_
          exact ih x1 v7 σ4 H locs ls hf hw (lv_sub hl [1, 2, 0] rfl)
        · have hf := (if_pos hc).symm.trans hf
          refine lv_iload_n hx hb d_M_first_30 rfl (lv_at hl 2 rfl) ?_
          exact zr_iret G hw hr hlocks hf hQ d_M_first_31
  unfold zf_M_first at hf
  refine lv_iload_n hx hb d_M_first_0 rfl (lv_at hl 1 rfl) ?_
  refine lv_iconst (v := 0) hx hb d_M_first_1 (by decide) ?_
  refine lv_iconst (v := 2) hx hb d_M_first_2 (by decide) ?_
  obtain ⟨r2, σ1, hc3, hf⟩ := zq_cs hf
  refine zr_ci hw (zr_runS (rest := []) G hw [.int x1, .int 0, .int 2] (zc_M_in hJ hc3) (va_cwS 3 hts (zs_gS zm_614 zm_615 zm_551 zm_613) rfl rfl rfl (by decide +kernel) ⟨Nat.le_trans (by decide) hR1, Nat.le_trans (by decide) hR2⟩) rfl hl.1 (Nat.le_of_ble_eq_true rfl) d_M_first_3 ⟨Nat.zero_le _, Nat.zero_le _⟩) (fun H locs hw => ?_)
  refine lv_if_ne hx hb d_M_first_6 (tgt := 11) rfl (fun hc => ?_) (fun hc => ?_)
  · have hf := (if_neg hc).symm.trans hf
    refine lv_iconst (v := 0) hx hb d_M_first_11 (by decide) ?_
    refine lv_istore_n hx hb d_M_first_12 rfl hl (by decide) rfl (fun ls hl => ?_)
    have hl : lv_has ls 3 [(2, .int 0), (0, .ref (ad 1)), (1, .int x1)] := hl
    exact K13 F x1 0 σ1 H locs ls hf hw (lv_sub hl [1, 2, 0] rfl)
  · have hf := (if_pos hc).symm.trans hf
    refine lv_iconst (v := (-1)) hx hb d_M_first_9 (by decide) ?_
    exact zr_iret G hw hr hlocks hf hQ d_M_first_10
/-! ScheduleCheckModel.isIn -/
def y_M_isIn : MethodName := ⟨"ScheduleCheckModel","isIn","(I)Z"⟩
theorem d_M_isIn_0 : decode prog_13_method_43_code 0 = .ok (.iload_n 1, 1) := by decide +kernel
theorem d_M_isIn_1 : decode prog_13_method_43_code 1 = .ok (.iconst 0, 1) := by decide +kernel
theorem d_M_isIn_2 : decode prog_13_method_43_code 2 = .ok (.aload_n 0, 1) := by decide +kernel
theorem d_M_isIn_3 : decode prog_13_method_43_code 3 = .ok (.getfield 304, 3) := by decide +kernel
theorem d_M_isIn_6 : decode prog_13_method_43_code 6 = .ok (.iconst 1, 1) := by decide +kernel
theorem d_M_isIn_7 : decode prog_13_method_43_code 7 = .ok (.isub, 1) := by decide +kernel
theorem d_M_isIn_8 : decode prog_13_method_43_code 8 = .ok (.invokestatic 62, 3) := by decide +kernel
theorem d_M_isIn_11 : decode prog_13_method_43_code 11 = .ok (.ireturn, 1) := by decide +kernel
def zf_M_isIn (F : Nat) (x1 : Int32) (σ : zs_S) : Option (Int32 × zs_S) :=
  zq_c (zf_M_in F x1 0 ((zs_i σ 1 23) - 1) σ) fun r2 σ1 =>
  zq_g (zq_z r2) <|
  some (r2, σ1)
set_option maxHeartbeats 4000000 in
set_option maxRecDepth 100000 in
theorem zc_M_isIn {l : Launch} {D : va_G} {cA : Nat → ClassId} {ad : Nat → Nat} {A : Nat → Prop} {F : Nat} {x1 : Int32} {σ : zs_S} {q : Int32 × zs_S} (hJ : zs_J ad) (hf : zf_M_isIn F x1 σ = some q) : Met l y_M_isIn (.code y_M_isIn prog_13_method_43_code 2 (some .boolean) :: zd_ww) { frames := 1, cells := 0, slots := 0, locals := 22 } (va_Pc [.ref (ad 1), .int x1] (zs_U 1 D cA ad A σ)) (zs_Qi 1 D cA ad A q) 0 0 A := by
  refine Met.ofW (cc := prog_13_method_43_code) (maxL := 2) (ret := (some .boolean)) (by decide) rfl ?_
  intro p e s m args below meth c s₁ B hml hv
  obtain ⟨hargs, hP, hK, hD, hZ⟩ := hv
  have G : zs_G 1 p s m args c prog_13_method_43_code 2 "ScheduleCheckModel" D cA ad A := ⟨⟨B.exec, B.bytes, hml, findClass_of_methodNamed B.named, fun w h => atoms_spec B.pre w (List.mem_cons_of_mem _ h)⟩, hK, hJ, hZ⟩
  have hw : zs_I 1 D cA ad A s σ s.heap [] := ⟨hP, hD, va_S.rf⟩
  have hx := G.1.1
  have hb := G.1.2.1
  have hown := G.1.2.2.2.1
  have hts := G.1.2.2.2.2
  have hr := B.returns
  have hlocks := B.notSynchronized
  have he : entryFrame m args 2 = F0 m 0 ((lg_sl [.ref (ad 1), .int x1] ++ List.replicate (2 - (lg_sl [.ref (ad 1), .int x1]).length) Slot.unset).toArray) [] := by rw [hargs]; exact lg_entry_eq m _ 2
  have hl := lv_entry [.ref (ad 1), .int x1] (n := 2) (Nat.le_of_ble_eq_true rfl)
  rw [he]
  generalize (lg_sl [.ref (ad 1), .int x1] ++ List.replicate (2 - (lg_sl [.ref (ad 1), .int x1]).length) Slot.unset).toArray = ls at hl
  have hl : lv_has ls 2 [(0, .ref (ad 1)), (1, .int x1)] := hl
  obtain ⟨RR, hR⟩ : ∃ z, z = (headSpec (.code y_M_isIn prog_13_method_43_code 2 (some .boolean) :: zd_ww) { frames := 1, cells := 0, slots := 0, locals := 22 }).room := ⟨_, rfl⟩
  rw [← hR]
  obtain ⟨QQ, hQ⟩ : ∃ z, z = MQ below (zs_Qi 1 D cA ad A q) args s 0 0 A := ⟨_, rfl⟩
  rw [← hQ]
  have hR1 : 1 ≤ RR.frames := by rw [hR]; exact Nat.le_refl _
  have hR2 : 22 ≤ RR.locals := by rw [hR]; exact Nat.le_refl _
  generalize s.heap = H at hw ⊢
  generalize ([] : List Loc) = locs at hw ⊢
  unfold zf_M_isIn at hf
  refine lv_iload_n hx hb d_M_isIn_0 rfl (lv_at hl 1 rfl) ?_
  refine lv_iconst (v := 0) hx hb d_M_isIn_1 (by decide) ?_
  refine lv_aload_n hx hb d_M_isIn_2 rfl (lv_at hl 0 rfl) ?_
  refine zr_get (ci := 8) G hw 1 23 zi_8 rfl rfl rfl (by decide) zm_629 (fun _ h => h) (v := .int (zs_i σ 1 23)) rfl d_M_isIn_3 ?_
  refine lv_iconst (v := 1) hx hb d_M_isIn_6 (by decide) ?_
  refine lv_isub hx hb d_M_isIn_7 ?_
  obtain ⟨r2, σ1, hc3, hf⟩ := zq_cs hf
  refine zr_ci hw (zr_runS (rest := []) G hw [.int x1, .int 0, .int ((zs_i σ 1 23) - 1)] (zc_M_in hJ hc3) (va_cwS 3 hts (zs_gS zm_614 zm_615 zm_551 zm_613) rfl rfl rfl (by decide +kernel) ⟨Nat.le_trans (by decide) hR1, Nat.le_trans (by decide) hR2⟩) rfl hl.1 (Nat.le_of_ble_eq_true rfl) d_M_isIn_8 ⟨Nat.zero_le _, Nat.zero_le _⟩) (fun H locs hw => ?_)
  obtain ⟨hz, hf⟩ := zq_gs hf
  exact zr_zret G hw hr hlocks hz hf hQ d_M_isIn_11
/-! ScheduleCheckModel.look -/
def y_M_look : MethodName := ⟨"ScheduleCheckModel","look","(II)I"⟩
theorem d_M_look_0 : decode prog_13_method_44_code 0 = .ok (.iload_n 2, 1) := by decide +kernel
theorem d_M_look_1 : decode prog_13_method_44_code 1 = .ok (.iconst 0, 1) := by decide +kernel
theorem d_M_look_2 : decode prog_13_method_44_code 2 = .ok (.iconst 4, 1) := by decide +kernel
theorem d_M_look_3 : decode prog_13_method_44_code 3 = .ok (.invokestatic 62, 3) := by decide +kernel
theorem d_M_look_6 : decode prog_13_method_44_code 6 = .ok (.ifCond .ne 5, 3) := by decide +kernel
theorem d_M_look_9 : decode prog_13_method_44_code 9 = .ok (.iconst (-1), 1) := by decide +kernel
theorem d_M_look_10 : decode prog_13_method_44_code 10 = .ok (.ireturn, 1) := by decide +kernel
theorem d_M_look_11 : decode prog_13_method_44_code 11 = .ok (.aload_n 0, 1) := by decide +kernel
theorem d_M_look_12 : decode prog_13_method_44_code 12 = .ok (.iload_n 1, 1) := by decide +kernel
theorem d_M_look_13 : decode prog_13_method_44_code 13 = .ok (.invokevirtual 366, 3) := by decide +kernel
theorem d_M_look_16 : decode prog_13_method_44_code 16 = .ok (.ifCond .ne 6, 3) := by decide +kernel
theorem d_M_look_19 : decode prog_13_method_44_code 19 = .ok (.bipush (-2), 2) := by decide +kernel
theorem d_M_look_21 : decode prog_13_method_44_code 21 = .ok (.ireturn, 1) := by decide +kernel
theorem d_M_look_22 : decode prog_13_method_44_code 22 = .ok (.iload_n 2, 1) := by decide +kernel
theorem d_M_look_23 : decode prog_13_method_44_code 23 = .ok (.ifCond .ne 12, 3) := by decide +kernel
theorem d_M_look_26 : decode prog_13_method_44_code 26 = .ok (.aload_n 0, 1) := by decide +kernel
theorem d_M_look_27 : decode prog_13_method_44_code 27 = .ok (.getfield 30, 3) := by decide +kernel
theorem d_M_look_30 : decode prog_13_method_44_code 30 = .ok (.iload_n 1, 1) := by decide +kernel
theorem d_M_look_31 : decode prog_13_method_44_code 31 = .ok (.iaload, 1) := by decide +kernel
theorem d_M_look_32 : decode prog_13_method_44_code 32 = .ok (.goto 53, 3) := by decide +kernel
theorem d_M_look_35 : decode prog_13_method_44_code 35 = .ok (.iload_n 2, 1) := by decide +kernel
theorem d_M_look_36 : decode prog_13_method_44_code 36 = .ok (.iconst 1, 1) := by decide +kernel
theorem d_M_look_37 : decode prog_13_method_44_code 37 = .ok (.if_icmp .ne 12, 3) := by decide +kernel
theorem d_M_look_40 : decode prog_13_method_44_code 40 = .ok (.aload_n 0, 1) := by decide +kernel
theorem d_M_look_41 : decode prog_13_method_44_code 41 = .ok (.getfield 33, 3) := by decide +kernel
theorem d_M_look_44 : decode prog_13_method_44_code 44 = .ok (.iload_n 1, 1) := by decide +kernel
theorem d_M_look_45 : decode prog_13_method_44_code 45 = .ok (.iaload, 1) := by decide +kernel
theorem d_M_look_46 : decode prog_13_method_44_code 46 = .ok (.goto 39, 3) := by decide +kernel
theorem d_M_look_49 : decode prog_13_method_44_code 49 = .ok (.iload_n 2, 1) := by decide +kernel
theorem d_M_look_50 : decode prog_13_method_44_code 50 = .ok (.iconst 2, 1) := by decide +kernel
theorem d_M_look_51 : decode prog_13_method_44_code 51 = .ok (.if_icmp .ne 12, 3) := by decide +kernel
theorem d_M_look_54 : decode prog_13_method_44_code 54 = .ok (.aload_n 0, 1) := by decide +kernel
theorem d_M_look_55 : decode prog_13_method_44_code 55 = .ok (.getfield 36, 3) := by decide +kernel
theorem d_M_look_58 : decode prog_13_method_44_code 58 = .ok (.iload_n 1, 1) := by decide +kernel
theorem d_M_look_59 : decode prog_13_method_44_code 59 = .ok (.iaload, 1) := by decide +kernel
theorem d_M_look_60 : decode prog_13_method_44_code 60 = .ok (.goto 25, 3) := by decide +kernel
theorem d_M_look_63 : decode prog_13_method_44_code 63 = .ok (.aload_n 0, 1) := by decide +kernel
theorem d_M_look_64 : decode prog_13_method_44_code 64 = .ok (.getfield 27, 3) := by decide +kernel
theorem d_M_look_67 : decode prog_13_method_44_code 67 = .ok (.bipush 34, 2) := by decide +kernel
theorem d_M_look_69 : decode prog_13_method_44_code 69 = .ok (.iload_n 1, 1) := by decide +kernel
theorem d_M_look_70 : decode prog_13_method_44_code 70 = .ok (.imul, 1) := by decide +kernel
theorem d_M_look_71 : decode prog_13_method_44_code 71 = .ok (.iload_n 2, 1) := by decide +kernel
theorem d_M_look_72 : decode prog_13_method_44_code 72 = .ok (.iconst 3, 1) := by decide +kernel
theorem d_M_look_73 : decode prog_13_method_44_code 73 = .ok (.if_icmp .ne 8, 3) := by decide +kernel
theorem d_M_look_76 : decode prog_13_method_44_code 76 = .ok (.bipush 32, 2) := by decide +kernel
theorem d_M_look_78 : decode prog_13_method_44_code 78 = .ok (.goto 5, 3) := by decide +kernel
theorem d_M_look_81 : decode prog_13_method_44_code 81 = .ok (.bipush 33, 2) := by decide +kernel
theorem d_M_look_83 : decode prog_13_method_44_code 83 = .ok (.iadd, 1) := by decide +kernel
theorem d_M_look_84 : decode prog_13_method_44_code 84 = .ok (.iaload, 1) := by decide +kernel
theorem d_M_look_85 : decode prog_13_method_44_code 85 = .ok (.ireturn, 1) := by decide +kernel
def zf_M_look_85 (F : Nat)  (t0 : Int32) (σ : zs_S) : Option (Int32 × zs_S) :=
  some (t0, σ)
def zf_M_look_83 (F : Nat)  (t0 : Int32) (t1 : Int32) (σ : zs_S) : Option (Int32 × zs_S) :=
  zq_g (zq_b (t1 + t0) 27234) <|
  zf_M_look_85 F (zs_i σ 58 (t1 + t0).toNatClampNeg) σ
def zf_M_look (F : Nat) (x1 : Int32) (x2 : Int32) (σ : zs_S) : Option (Int32 × zs_S) :=
  zq_c (zf_M_in F x2 0 4 σ) fun r2 σ1 =>
  if r2 = 0 then (
    some ((-1), σ1)
  ) else (
    zq_c (zf_M_isIn F x1 σ1) fun r5 σ4 =>
    if r5 = 0 then (
      some ((-2), σ4)
    ) else (
      if x2 = 0 then (
        zq_g (zq_b x1 801) <|
        zf_M_look_85 F (zs_i σ4 59 (x1).toNatClampNeg) σ4
      ) else (
        if x2 = 1 then (
          zq_g (zq_b x1 801) <|
          zf_M_look_85 F (zs_i σ4 60 (x1).toNatClampNeg) σ4
        ) else (
          if x2 = 2 then (
            zq_g (zq_b x1 801) <|
            zf_M_look_85 F (zs_i σ4 61 (x1).toNatClampNeg) σ4
          ) else (
            if x2 = 3 then (
              zf_M_look_83 F 32 (34 * x1) σ4
            ) else (
              zf_M_look_83 F 33 (34 * x1) σ4
            )
          )
        )
      )
    )
  )
set_option maxHeartbeats 4000000 in
set_option maxRecDepth 100000 in
theorem zc_M_look {l : Launch} {D : va_G} {cA : Nat → ClassId} {ad : Nat → Nat} {A : Nat → Prop} {F : Nat} {x1 : Int32} {x2 : Int32} {σ : zs_S} {q : Int32 × zs_S} (hJ : zs_J ad) (hf : zf_M_look F x1 x2 σ = some q) : Met l y_M_look (.code y_M_look prog_13_method_44_code 3 (some .int) :: zd_ww) { frames := 2, cells := 0, slots := 0, locals := 43 } (va_Pc [.ref (ad 1), .int x1, .int x2] (zs_U 1 D cA ad A σ)) (zs_Qi 1 D cA ad A q) 0 0 A := by
  refine Met.ofW (cc := prog_13_method_44_code) (maxL := 3) (ret := (some .int)) (by decide) rfl ?_
  intro p e s m args below meth c s₁ B hml hv
  obtain ⟨hargs, hP, hK, hD, hZ⟩ := hv
  have G : zs_G 1 p s m args c prog_13_method_44_code 3 "ScheduleCheckModel" D cA ad A := ⟨⟨B.exec, B.bytes, hml, findClass_of_methodNamed B.named, fun w h => atoms_spec B.pre w (List.mem_cons_of_mem _ h)⟩, hK, hJ, hZ⟩
  have hw : zs_I 1 D cA ad A s σ s.heap [] := ⟨hP, hD, va_S.rf⟩
  have hx := G.1.1
  have hb := G.1.2.1
  have hown := G.1.2.2.2.1
  have hts := G.1.2.2.2.2
  have hr := B.returns
  have hlocks := B.notSynchronized
  have he : entryFrame m args 3 = F0 m 0 ((lg_sl [.ref (ad 1), .int x1, .int x2] ++ List.replicate (3 - (lg_sl [.ref (ad 1), .int x1, .int x2]).length) Slot.unset).toArray) [] := by rw [hargs]; exact lg_entry_eq m _ 3
  have hl := lv_entry [.ref (ad 1), .int x1, .int x2] (n := 3) (Nat.le_of_ble_eq_true rfl)
  rw [he]
  generalize (lg_sl [.ref (ad 1), .int x1, .int x2] ++ List.replicate (3 - (lg_sl [.ref (ad 1), .int x1, .int x2]).length) Slot.unset).toArray = ls at hl
  have hl : lv_has ls 3 [(0, .ref (ad 1)), (1, .int x1), (2, .int x2)] := hl
  obtain ⟨RR, hR⟩ : ∃ z, z = (headSpec (.code y_M_look prog_13_method_44_code 3 (some .int) :: zd_ww) { frames := 2, cells := 0, slots := 0, locals := 43 }).room := ⟨_, rfl⟩
  rw [← hR]
  obtain ⟨QQ, hQ⟩ : ∃ z, z = MQ below (zs_Qi 1 D cA ad A q) args s 0 0 A := ⟨_, rfl⟩
  rw [← hQ]
  have hR1 : 2 ≤ RR.frames := by rw [hR]; exact Nat.le_refl _
  have hR2 : 43 ≤ RR.locals := by rw [hR]; exact Nat.le_refl _
  generalize s.heap = H at hw ⊢
  generalize ([] : List Loc) = locs at hw ⊢
  have K85 : ∀ (t0 : Int32) (σ : zs_S) (H : Heap) (locs : List Loc) (ls : Array Slot), zf_M_look_85 F t0 σ = some q → zs_I 1 D cA ad A s σ H locs → lv_has ls 3 [] → W p l e RR s m args below meth c H locs 0 0 QQ (F0 m 85 ls [.int t0]) := by
    intro  t0 σ H locs ls hf hw hl
    unfold zf_M_look_85 at hf
    exact zr_iret G hw hr hlocks hf hQ d_M_look_85
  have K83 : ∀ (t0 : Int32) (t1 : Int32) (σ : zs_S) (H : Heap) (locs : List Loc) (ls : Array Slot), zf_M_look_83 F t0 t1 σ = some q → zs_I 1 D cA ad A s σ H locs → lv_has ls 3 [] → W p l e RR s m args below meth c H locs 0 0 QQ (F0 m 83 ls [.int t0, .int t1, .ref (ad 58)]) := by
    intro  t0 t1 σ H locs ls hf hw hl
    unfold zf_M_look_83 at hf
    refine lv_iadd hx hb d_M_look_83 ?_
    obtain ⟨hi10, hf⟩ := zq_gs hf
    refine zr_iald G hw 58 rfl rfl hi10 d_M_look_84 ?_
    exact K85 (zs_i σ 58 (t1 + t0).toNatClampNeg) σ H locs ls hf hw (lv_sub hl [] rfl)
  unfold zf_M_look at hf
  refine lv_iload_n hx hb d_M_look_0 rfl (lv_at hl 2 rfl) ?_
  refine lv_iconst (v := 0) hx hb d_M_look_1 (by decide) ?_
  refine lv_iconst (v := 4) hx hb d_M_look_2 (by decide) ?_
  obtain ⟨r2, σ1, hc3, hf⟩ := zq_cs hf
  refine zr_ci hw (zr_runS (rest := []) G hw [.int x2, .int 0, .int 4] (zc_M_in hJ hc3) (va_cwS 3 hts (zs_gS zm_614 zm_615 zm_551 zm_613) rfl rfl rfl (by decide +kernel) ⟨Nat.le_trans (by decide) hR1, Nat.le_trans (by decide) hR2⟩) rfl hl.1 (Nat.le_of_ble_eq_true rfl) d_M_look_3 ⟨Nat.zero_le _, Nat.zero_le _⟩) (fun H locs hw => ?_)
  refine lv_if_ne hx hb d_M_look_6 (tgt := 11) rfl (fun hc => ?_) (fun hc => ?_)
  · have hf := (if_neg hc).symm.trans hf
    refine lv_aload_n hx hb d_M_look_11 rfl (lv_at hl 0 rfl) ?_
    refine lv_iload_n hx hb d_M_look_12 rfl (lv_at hl 1 rfl) ?_
    obtain ⟨r5, σ4, hc6, hf⟩ := zq_cs hf
    refine zr_ci hw (zr_runV (rest := []) (ci := 8) (o := 1) G hw [.int x1] (zc_M_isIn hJ hc6) (cwV 1 hts (zs_gV zm_753 zm_754 zm_755 zm_551 zm_752) rfl rfl rfl (by decide +kernel) ⟨Nat.le_trans (by decide) hR1, Nat.le_trans (by decide) hR2⟩) rfl rfl rfl hl.1 (Nat.le_of_ble_eq_true rfl) d_M_look_13 ⟨Nat.zero_le _, Nat.zero_le _⟩) (fun H locs hw => ?_)
    refine lv_if_ne hx hb d_M_look_16 (tgt := 22) rfl (fun hc => ?_) (fun hc => ?_)
    · have hf := (if_neg hc).symm.trans hf
      refine lv_iload_n hx hb d_M_look_22 rfl (lv_at hl 2 rfl) ?_
      refine lv_if_ne hx hb d_M_look_23 (tgt := 35) rfl (fun hc => ?_) (fun hc => ?_)
      · have hf := (if_neg hc).symm.trans hf
        refine lv_iload_n hx hb d_M_look_35 rfl (lv_at hl 2 rfl) ?_
        refine lv_iconst (v := 1) hx hb d_M_look_36 (by decide) ?_
        refine lv_icmp_ne hx hb d_M_look_37 (tgt := 49) rfl (fun hc => ?_) (fun hc => ?_)
        · have hf := (if_neg hc).symm.trans hf
          refine lv_iload_n hx hb d_M_look_49 rfl (lv_at hl 2 rfl) ?_
          refine lv_iconst (v := 2) hx hb d_M_look_50 (by decide) ?_
          refine lv_icmp_ne hx hb d_M_look_51 (tgt := 63) rfl (fun hc => ?_) (fun hc => ?_)
          · have hf := (if_neg hc).symm.trans hf
            refine lv_aload_n hx hb d_M_look_63 rfl (lv_at hl 0 rfl) ?_
            refine zr_get (ci := 8) G hw 1 17 zi_8 rfl rfl rfl (by decide) zm_627 (fun _ h => h) (v := .ref (ad 58)) rfl d_M_look_64 ?_
            refine lv_bipush (v := 34) hx hb d_M_look_67 (by decide) ?_
            refine lv_iload_n hx hb d_M_look_69 rfl (lv_at hl 1 rfl) ?_
            refine lv_imul hx hb d_M_look_70 ?_
            refine lv_iload_n hx hb d_M_look_71 rfl (lv_at hl 2 rfl) ?_
            refine lv_iconst (v := 3) hx hb d_M_look_72 (by decide) ?_
            refine lv_icmp_ne hx hb d_M_look_73 (tgt := 81) rfl (fun hc => ?_) (fun hc => ?_)
            · have hf := (if_neg hc).symm.trans hf
              refine lv_bipush (v := 33) hx hb d_M_look_81 (by decide) ?_
              exact K83 33 (34 * x1) σ4 H locs ls hf hw (lv_sub hl [] rfl)
            · have hf := (if_pos hc).symm.trans hf
              refine lv_bipush (v := 32) hx hb d_M_look_76 (by decide) ?_
              refine lv_goto hx hb d_M_look_78 (tgt := 83) rfl ?_
              exact K83 32 (34 * x1) σ4 H locs ls hf hw (lv_sub hl [] rfl)
          · have hf := (if_pos hc).symm.trans hf
            refine lv_aload_n hx hb d_M_look_54 rfl (lv_at hl 0 rfl) ?_
            refine zr_get (ci := 8) G hw 1 20 zi_8 rfl rfl rfl (by decide) zm_639 (fun _ h => h) (v := .ref (ad 61)) rfl d_M_look_55 ?_
            refine lv_iload_n hx hb d_M_look_58 rfl (lv_at hl 1 rfl) ?_
            obtain ⟨hi7, hf⟩ := zq_gs hf
            refine zr_iald G hw 61 rfl rfl hi7 d_M_look_59 ?_
            refine lv_goto hx hb d_M_look_60 (tgt := 85) rfl ?_
            exact K85 (zs_i σ4 61 (x1).toNatClampNeg) σ4 H locs ls hf hw (lv_sub hl [] rfl)
        · have hf := (if_pos hc).symm.trans hf
          refine lv_aload_n hx hb d_M_look_40 rfl (lv_at hl 0 rfl) ?_
          refine zr_get (ci := 8) G hw 1 19 zi_8 rfl rfl rfl (by decide) zm_637 (fun _ h => h) (v := .ref (ad 60)) rfl d_M_look_41 ?_
          refine lv_iload_n hx hb d_M_look_44 rfl (lv_at hl 1 rfl) ?_
          obtain ⟨hi8, hf⟩ := zq_gs hf
          refine zr_iald G hw 60 rfl rfl hi8 d_M_look_45 ?_
          refine lv_goto hx hb d_M_look_46 (tgt := 85) rfl ?_
          exact K85 (zs_i σ4 60 (x1).toNatClampNeg) σ4 H locs ls hf hw (lv_sub hl [] rfl)
      · have hf := (if_pos hc).symm.trans hf
        refine lv_aload_n hx hb d_M_look_26 rfl (lv_at hl 0 rfl) ?_
        refine zr_get (ci := 8) G hw 1 18 zi_8 rfl rfl rfl (by decide) zm_635 (fun _ h => h) (v := .ref (ad 59)) rfl d_M_look_27 ?_
        refine lv_iload_n hx hb d_M_look_30 rfl (lv_at hl 1 rfl) ?_
        obtain ⟨hi9, hf⟩ := zq_gs hf
        refine zr_iald G hw 59 rfl rfl hi9 d_M_look_31 ?_
        refine lv_goto hx hb d_M_look_32 (tgt := 85) rfl ?_
        exact K85 (zs_i σ4 59 (x1).toNatClampNeg) σ4 H locs ls hf hw (lv_sub hl [] rfl)
    · have hf := (if_pos hc).symm.trans hf
      refine lv_bipush (v := (-2)) hx hb d_M_look_19 (by decide) ?_
      exact zr_iret G hw hr hlocks hf hQ d_M_look_21
  · have hf := (if_pos hc).symm.trans hf
    refine lv_iconst (v := (-1)) hx hb d_M_look_9 (by decide) ?_
    exact zr_iret G hw hr hlocks hf hQ d_M_look_10
/-! ScheduleCheckModel.value -/
def y_M_value : MethodName := ⟨"ScheduleCheckModel","value","(II)I"⟩
theorem d_M_value_0 : decode prog_13_method_45_code 0 = .ok (.aload_n 0, 1) := by decide +kernel
theorem d_M_value_1 : decode prog_13_method_45_code 1 = .ok (.iload_n 1, 1) := by decide +kernel
theorem d_M_value_2 : decode prog_13_method_45_code 2 = .ok (.invokevirtual 366, 3) := by decide +kernel
theorem d_M_value_5 : decode prog_13_method_45_code 5 = .ok (.ifCond .eq 37, 3) := by decide +kernel
theorem d_M_value_8 : decode prog_13_method_45_code 8 = .ok (.iload_n 2, 1) := by decide +kernel
theorem d_M_value_9 : decode prog_13_method_45_code 9 = .ok (.iconst 0, 1) := by decide +kernel
theorem d_M_value_10 : decode prog_13_method_45_code 10 = .ok (.aload_n 0, 1) := by decide +kernel
theorem d_M_value_11 : decode prog_13_method_45_code 11 = .ok (.getfield 16, 3) := by decide +kernel
theorem d_M_value_14 : decode prog_13_method_45_code 14 = .ok (.getfield 152, 3) := by decide +kernel
theorem d_M_value_17 : decode prog_13_method_45_code 17 = .ok (.getfield 156, 3) := by decide +kernel
theorem d_M_value_20 : decode prog_13_method_45_code 20 = .ok (.iconst 1, 1) := by decide +kernel
theorem d_M_value_21 : decode prog_13_method_45_code 21 = .ok (.isub, 1) := by decide +kernel
theorem d_M_value_22 : decode prog_13_method_45_code 22 = .ok (.invokestatic 62, 3) := by decide +kernel
theorem d_M_value_25 : decode prog_13_method_45_code 25 = .ok (.ifCond .eq 17, 3) := by decide +kernel
theorem d_M_value_28 : decode prog_13_method_45_code 28 = .ok (.aload_n 0, 1) := by decide +kernel
theorem d_M_value_29 : decode prog_13_method_45_code 29 = .ok (.getfield 27, 3) := by decide +kernel
theorem d_M_value_32 : decode prog_13_method_45_code 32 = .ok (.bipush 34, 2) := by decide +kernel
theorem d_M_value_34 : decode prog_13_method_45_code 34 = .ok (.iload_n 1, 1) := by decide +kernel
theorem d_M_value_35 : decode prog_13_method_45_code 35 = .ok (.imul, 1) := by decide +kernel
theorem d_M_value_36 : decode prog_13_method_45_code 36 = .ok (.iload_n 2, 1) := by decide +kernel
theorem d_M_value_37 : decode prog_13_method_45_code 37 = .ok (.iadd, 1) := by decide +kernel
theorem d_M_value_38 : decode prog_13_method_45_code 38 = .ok (.iaload, 1) := by decide +kernel
theorem d_M_value_39 : decode prog_13_method_45_code 39 = .ok (.goto 6, 3) := by decide +kernel
theorem d_M_value_42 : decode prog_13_method_45_code 42 = .ok (.sipush 1000, 3) := by decide +kernel
theorem d_M_value_45 : decode prog_13_method_45_code 45 = .ok (.ireturn, 1) := by decide +kernel
def zf_M_value_45 (F : Nat)  (t0 : Int32) (σ : zs_S) : Option (Int32 × zs_S) :=
  some (t0, σ)
def zf_M_value_42 (F : Nat)   (σ : zs_S) : Option (Int32 × zs_S) :=
  zf_M_value_45 F 1000 σ
def zf_M_value (F : Nat) (x1 : Int32) (x2 : Int32) (σ : zs_S) : Option (Int32 × zs_S) :=
  zq_c (zf_M_isIn F x1 σ) fun r2 σ1 =>
  if r2 = 0 then (
    zf_M_value_42 F σ1
  ) else (
    zq_q (zs_r σ1 1 2) fun q4 =>
    zq_g (zq_k 1 q4 19) <|
    zq_q (zd_rf 1 q4 0) fun q6 =>
    zq_g (zq_k 1 q6 20) <|
    zq_c (zf_M_in F x2 0 ((zs_i σ1 q6 2) - 1) σ1) fun r9 σ8 =>
    if r9 = 0 then (
      zf_M_value_42 F σ8
    ) else (
      zq_g (zq_b ((34 * x1) + x2) 27234) <|
      zf_M_value_45 F (zs_i σ8 58 ((34 * x1) + x2).toNatClampNeg) σ8
    )
  )
set_option maxHeartbeats 4000000 in
set_option maxRecDepth 100000 in
theorem zc_M_value {l : Launch} {D : va_G} {cA : Nat → ClassId} {ad : Nat → Nat} {A : Nat → Prop} {F : Nat} {x1 : Int32} {x2 : Int32} {σ : zs_S} {q : Int32 × zs_S} (hJ : zs_J ad) (hf : zf_M_value F x1 x2 σ = some q) : Met l y_M_value (.code y_M_value prog_13_method_45_code 3 (some .int) :: zd_ww) { frames := 2, cells := 0, slots := 0, locals := 43 } (va_Pc [.ref (ad 1), .int x1, .int x2] (zs_U 1 D cA ad A σ)) (zs_Qi 1 D cA ad A q) 0 0 A := by
  refine Met.ofW (cc := prog_13_method_45_code) (maxL := 3) (ret := (some .int)) (by decide) rfl ?_
  intro p e s m args below meth c s₁ B hml hv
  obtain ⟨hargs, hP, hK, hD, hZ⟩ := hv
  have G : zs_G 1 p s m args c prog_13_method_45_code 3 "ScheduleCheckModel" D cA ad A := ⟨⟨B.exec, B.bytes, hml, findClass_of_methodNamed B.named, fun w h => atoms_spec B.pre w (List.mem_cons_of_mem _ h)⟩, hK, hJ, hZ⟩
  have hw : zs_I 1 D cA ad A s σ s.heap [] := ⟨hP, hD, va_S.rf⟩
  have hx := G.1.1
  have hb := G.1.2.1
  have hown := G.1.2.2.2.1
  have hts := G.1.2.2.2.2
  have hr := B.returns
  have hlocks := B.notSynchronized
  have he : entryFrame m args 3 = F0 m 0 ((lg_sl [.ref (ad 1), .int x1, .int x2] ++ List.replicate (3 - (lg_sl [.ref (ad 1), .int x1, .int x2]).length) Slot.unset).toArray) [] := by rw [hargs]; exact lg_entry_eq m _ 3
  have hl := lv_entry [.ref (ad 1), .int x1, .int x2] (n := 3) (Nat.le_of_ble_eq_true rfl)
  rw [he]
  generalize (lg_sl [.ref (ad 1), .int x1, .int x2] ++ List.replicate (3 - (lg_sl [.ref (ad 1), .int x1, .int x2]).length) Slot.unset).toArray = ls at hl
  have hl : lv_has ls 3 [(0, .ref (ad 1)), (1, .int x1), (2, .int x2)] := hl
  obtain ⟨RR, hR⟩ : ∃ z, z = (headSpec (.code y_M_value prog_13_method_45_code 3 (some .int) :: zd_ww) { frames := 2, cells := 0, slots := 0, locals := 43 }).room := ⟨_, rfl⟩
  rw [← hR]
  obtain ⟨QQ, hQ⟩ : ∃ z, z = MQ below (zs_Qi 1 D cA ad A q) args s 0 0 A := ⟨_, rfl⟩
  rw [← hQ]
  have hR1 : 2 ≤ RR.frames := by rw [hR]; exact Nat.le_refl _
  have hR2 : 43 ≤ RR.locals := by rw [hR]; exact Nat.le_refl _
  generalize s.heap = H at hw ⊢
  generalize ([] : List Loc) = locs at hw ⊢
  have K45 : ∀ (t0 : Int32) (σ : zs_S) (H : Heap) (locs : List Loc) (ls : Array Slot), zf_M_value_45 F t0 σ = some q → zs_I 1 D cA ad A s σ H locs → lv_has ls 3 [] → W p l e RR s m args below meth c H locs 0 0 QQ (F0 m 45 ls [.int t0]) := by
    intro  t0 σ H locs ls hf hw hl
    unfold zf_M_value_45 at hf
    exact zr_iret G hw hr hlocks hf hQ d_M_value_45
  have K42 : ∀ (σ : zs_S) (H : Heap) (locs : List Loc) (ls : Array Slot), zf_M_value_42 F σ = some q → zs_I 1 D cA ad A s σ H locs → lv_has ls 3 [] → W p l e RR s m args below meth c H locs 0 0 QQ (F0 m 42 ls []) := by
    intro   σ H locs ls hf hw hl
    unfold zf_M_value_42 at hf
    refine lv_sipush (v := 1000) hx hb d_M_value_42 (by decide) ?_
    exact K45 1000 σ H locs ls hf hw (lv_sub hl [] rfl)
  unfold zf_M_value at hf
  refine lv_aload_n hx hb d_M_value_0 rfl (lv_at hl 0 rfl) ?_
  refine lv_iload_n hx hb d_M_value_1 rfl (lv_at hl 1 rfl) ?_
  obtain ⟨r2, σ1, hc3, hf⟩ := zq_cs hf
  refine zr_ci hw (zr_runV (rest := []) (ci := 8) (o := 1) G hw [.int x1] (zc_M_isIn hJ hc3) (cwV 1 hts (zs_gV zm_753 zm_754 zm_755 zm_551 zm_752) rfl rfl rfl (by decide +kernel) ⟨Nat.le_trans (by decide) hR1, Nat.le_trans (by decide) hR2⟩) rfl rfl rfl hl.1 (Nat.le_of_ble_eq_true rfl) d_M_value_2 ⟨Nat.zero_le _, Nat.zero_le _⟩) (fun H locs hw => ?_)
  refine lv_if_eq hx hb d_M_value_5 (tgt := 42) rfl (fun hc => ?_) (fun hc => ?_)
  · have hf := (if_pos hc).symm.trans hf
    exact K42 σ1 H locs ls hf hw (lv_sub hl [] rfl)
  · have hf := (if_neg hc).symm.trans hf
    refine lv_iload_n hx hb d_M_value_8 rfl (lv_at hl 2 rfl) ?_
    refine lv_iconst (v := 0) hx hb d_M_value_9 (by decide) ?_
    refine lv_aload_n hx hb d_M_value_10 rfl (lv_at hl 0 rfl) ?_
    obtain ⟨q4, e_q4, h_q4, hf⟩ := zq_qs hf
    refine zr_get (ci := 8) G hw 1 2 zi_8 rfl rfl rfl (by decide) zm_616 (fun _ h => h) (v := .ref (ad q4)) (zs_fr rfl e_q4 h_q4) d_M_value_11 ?_
    obtain ⟨hs5, hf⟩ := zq_gs hf
    have hs5 := zq_ks hs5
    obtain ⟨q6, e_q6, h_q6, hf⟩ := zq_qs hf
    refine zr_get (ci := 9) G hw q4 0 zi_9 hs5 rfl rfl (by decide) zm_591 (fun _ h => h) (v := .ref (ad q6)) (zs_fs rfl e_q6 h_q6) d_M_value_14 ?_
    obtain ⟨hs7, hf⟩ := zq_gs hf
    have hs7 := zq_ks hs7
    refine zr_get (ci := 10) G hw q6 2 zi_10 hs7 rfl rfl (by decide) zm_596 (fun _ h => h) (v := .int (zs_i σ1 q6 2)) rfl d_M_value_17 ?_
    refine lv_iconst (v := 1) hx hb d_M_value_20 (by decide) ?_
    refine lv_isub hx hb d_M_value_21 ?_
    obtain ⟨r9, σ8, hc10, hf⟩ := zq_cs hf
    refine zr_ci hw (zr_runS (rest := []) G hw [.int x2, .int 0, .int ((zs_i σ1 q6 2) - 1)] (zc_M_in hJ hc10) (va_cwS 3 hts (zs_gS zm_614 zm_615 zm_551 zm_613) rfl rfl rfl (by decide +kernel) ⟨Nat.le_trans (by decide) hR1, Nat.le_trans (by decide) hR2⟩) rfl hl.1 (Nat.le_of_ble_eq_true rfl) d_M_value_22 ⟨Nat.zero_le _, Nat.zero_le _⟩) (fun H locs hw => ?_)
    refine lv_if_eq hx hb d_M_value_25 (tgt := 42) rfl (fun hc => ?_) (fun hc => ?_)
    · have hf := (if_pos hc).symm.trans hf
      exact K42 σ8 H locs ls hf hw (lv_sub hl [] rfl)
    · have hf := (if_neg hc).symm.trans hf
      refine lv_aload_n hx hb d_M_value_28 rfl (lv_at hl 0 rfl) ?_
      refine zr_get (ci := 8) G hw 1 17 zi_8 rfl rfl rfl (by decide) zm_627 (fun _ h => h) (v := .ref (ad 58)) rfl d_M_value_29 ?_
      refine lv_bipush (v := 34) hx hb d_M_value_32 (by decide) ?_
      refine lv_iload_n hx hb d_M_value_34 rfl (lv_at hl 1 rfl) ?_
      refine lv_imul hx hb d_M_value_35 ?_
      refine lv_iload_n hx hb d_M_value_36 rfl (lv_at hl 2 rfl) ?_
      refine lv_iadd hx hb d_M_value_37 ?_
      obtain ⟨hi11, hf⟩ := zq_gs hf
      refine zr_iald G hw 58 rfl rfl hi11 d_M_value_38 ?_
      refine lv_goto hx hb d_M_value_39 (tgt := 45) rfl ?_
      exact K45 (zs_i σ8 58 ((34 * x1) + x2).toNatClampNeg) σ8 H locs ls hf hw (lv_sub hl [] rfl)
/-! ScheduleCheckModel.isThread -/
def y_M_isThread : MethodName := ⟨"ScheduleCheckModel","isThread","(II)Z"⟩
theorem d_M_isThread_0 : decode prog_13_method_46_code 0 = .ok (.aload_n 0, 1) := by decide +kernel
theorem d_M_isThread_1 : decode prog_13_method_46_code 1 = .ok (.iload_n 1, 1) := by decide +kernel
theorem d_M_isThread_2 : decode prog_13_method_46_code 2 = .ok (.invokevirtual 366, 3) := by decide +kernel
theorem d_M_isThread_5 : decode prog_13_method_46_code 5 = .ok (.ifCond .eq 24, 3) := by decide +kernel
theorem d_M_isThread_8 : decode prog_13_method_46_code 8 = .ok (.iload_n 2, 1) := by decide +kernel
theorem d_M_isThread_9 : decode prog_13_method_46_code 9 = .ok (.iconst 0, 1) := by decide +kernel
theorem d_M_isThread_10 : decode prog_13_method_46_code 10 = .ok (.aload_n 0, 1) := by decide +kernel
theorem d_M_isThread_11 : decode prog_13_method_46_code 11 = .ok (.getfield 16, 3) := by decide +kernel
theorem d_M_isThread_14 : decode prog_13_method_46_code 14 = .ok (.getfield 164, 3) := by decide +kernel
theorem d_M_isThread_17 : decode prog_13_method_46_code 17 = .ok (.iconst 1, 1) := by decide +kernel
theorem d_M_isThread_18 : decode prog_13_method_46_code 18 = .ok (.isub, 1) := by decide +kernel
theorem d_M_isThread_19 : decode prog_13_method_46_code 19 = .ok (.invokestatic 62, 3) := by decide +kernel
theorem d_M_isThread_22 : decode prog_13_method_46_code 22 = .ok (.ifCond .eq 7, 3) := by decide +kernel
theorem d_M_isThread_25 : decode prog_13_method_46_code 25 = .ok (.iconst 1, 1) := by decide +kernel
theorem d_M_isThread_26 : decode prog_13_method_46_code 26 = .ok (.goto 4, 3) := by decide +kernel
theorem d_M_isThread_29 : decode prog_13_method_46_code 29 = .ok (.iconst 0, 1) := by decide +kernel
theorem d_M_isThread_30 : decode prog_13_method_46_code 30 = .ok (.ireturn, 1) := by decide +kernel
def zf_M_isThread_30 (F : Nat)  (t0 : Int32) (σ : zs_S) : Option (Int32 × zs_S) :=
  zq_g (zq_z t0) <|
  some (t0, σ)
def zf_M_isThread_29 (F : Nat)   (σ : zs_S) : Option (Int32 × zs_S) :=
  zf_M_isThread_30 F 0 σ
def zf_M_isThread (F : Nat) (x1 : Int32) (x2 : Int32) (σ : zs_S) : Option (Int32 × zs_S) :=
  zq_c (zf_M_isIn F x1 σ) fun r2 σ1 =>
  if r2 = 0 then (
    zf_M_isThread_29 F σ1
  ) else (
    zq_q (zs_r σ1 1 2) fun q4 =>
    zq_g (zq_k 1 q4 19) <|
    zq_c (zf_M_in F x2 0 ((zs_i σ1 q4 5) - 1) σ1) fun r7 σ6 =>
    if r7 = 0 then (
      zf_M_isThread_29 F σ6
    ) else (
      zf_M_isThread_30 F 1 σ6
    )
  )
set_option maxHeartbeats 4000000 in
set_option maxRecDepth 100000 in
theorem zc_M_isThread {l : Launch} {D : va_G} {cA : Nat → ClassId} {ad : Nat → Nat} {A : Nat → Prop} {F : Nat} {x1 : Int32} {x2 : Int32} {σ : zs_S} {q : Int32 × zs_S} (hJ : zs_J ad) (hf : zf_M_isThread F x1 x2 σ = some q) : Met l y_M_isThread (.code y_M_isThread prog_13_method_46_code 3 (some .boolean) :: zd_ww) { frames := 2, cells := 0, slots := 0, locals := 43 } (va_Pc [.ref (ad 1), .int x1, .int x2] (zs_U 1 D cA ad A σ)) (zs_Qi 1 D cA ad A q) 0 0 A := by
  refine Met.ofW (cc := prog_13_method_46_code) (maxL := 3) (ret := (some .boolean)) (by decide) rfl ?_
  intro p e s m args below meth c s₁ B hml hv
  obtain ⟨hargs, hP, hK, hD, hZ⟩ := hv
  have G : zs_G 1 p s m args c prog_13_method_46_code 3 "ScheduleCheckModel" D cA ad A := ⟨⟨B.exec, B.bytes, hml, findClass_of_methodNamed B.named, fun w h => atoms_spec B.pre w (List.mem_cons_of_mem _ h)⟩, hK, hJ, hZ⟩
  have hw : zs_I 1 D cA ad A s σ s.heap [] := ⟨hP, hD, va_S.rf⟩
  have hx := G.1.1
  have hb := G.1.2.1
  have hown := G.1.2.2.2.1
  have hts := G.1.2.2.2.2
  have hr := B.returns
  have hlocks := B.notSynchronized
  have he : entryFrame m args 3 = F0 m 0 ((lg_sl [.ref (ad 1), .int x1, .int x2] ++ List.replicate (3 - (lg_sl [.ref (ad 1), .int x1, .int x2]).length) Slot.unset).toArray) [] := by rw [hargs]; exact lg_entry_eq m _ 3
  have hl := lv_entry [.ref (ad 1), .int x1, .int x2] (n := 3) (Nat.le_of_ble_eq_true rfl)
  rw [he]
  generalize (lg_sl [.ref (ad 1), .int x1, .int x2] ++ List.replicate (3 - (lg_sl [.ref (ad 1), .int x1, .int x2]).length) Slot.unset).toArray = ls at hl
  have hl : lv_has ls 3 [(0, .ref (ad 1)), (1, .int x1), (2, .int x2)] := hl
  obtain ⟨RR, hR⟩ : ∃ z, z = (headSpec (.code y_M_isThread prog_13_method_46_code 3 (some .boolean) :: zd_ww) { frames := 2, cells := 0, slots := 0, locals := 43 }).room := ⟨_, rfl⟩
  rw [← hR]
  obtain ⟨QQ, hQ⟩ : ∃ z, z = MQ below (zs_Qi 1 D cA ad A q) args s 0 0 A := ⟨_, rfl⟩
  rw [← hQ]
  have hR1 : 2 ≤ RR.frames := by rw [hR]; exact Nat.le_refl _
  have hR2 : 43 ≤ RR.locals := by rw [hR]; exact Nat.le_refl _
  generalize s.heap = H at hw ⊢
  generalize ([] : List Loc) = locs at hw ⊢
  have K30 : ∀ (t0 : Int32) (σ : zs_S) (H : Heap) (locs : List Loc) (ls : Array Slot), zf_M_isThread_30 F t0 σ = some q → zs_I 1 D cA ad A s σ H locs → lv_has ls 3 [] → W p l e RR s m args below meth c H locs 0 0 QQ (F0 m 30 ls [.int t0]) := by
    intro  t0 σ H locs ls hf hw hl
    unfold zf_M_isThread_30 at hf
    obtain ⟨hz, hf⟩ := zq_gs hf
    exact zr_zret G hw hr hlocks hz hf hQ d_M_isThread_30
  have K29 : ∀ (σ : zs_S) (H : Heap) (locs : List Loc) (ls : Array Slot), zf_M_isThread_29 F σ = some q → zs_I 1 D cA ad A s σ H locs → lv_has ls 3 [] → W p l e RR s m args below meth c H locs 0 0 QQ (F0 m 29 ls []) := by
    intro   σ H locs ls hf hw hl
    unfold zf_M_isThread_29 at hf
    refine lv_iconst (v := 0) hx hb d_M_isThread_29 (by decide) ?_
    exact K30 0 σ H locs ls hf hw (lv_sub hl [] rfl)
  unfold zf_M_isThread at hf
  refine lv_aload_n hx hb d_M_isThread_0 rfl (lv_at hl 0 rfl) ?_
  refine lv_iload_n hx hb d_M_isThread_1 rfl (lv_at hl 1 rfl) ?_
  obtain ⟨r2, σ1, hc3, hf⟩ := zq_cs hf
  refine zr_ci hw (zr_runV (rest := []) (ci := 8) (o := 1) G hw [.int x1] (zc_M_isIn hJ hc3) (cwV 1 hts (zs_gV zm_753 zm_754 zm_755 zm_551 zm_752) rfl rfl rfl (by decide +kernel) ⟨Nat.le_trans (by decide) hR1, Nat.le_trans (by decide) hR2⟩) rfl rfl rfl hl.1 (Nat.le_of_ble_eq_true rfl) d_M_isThread_2 ⟨Nat.zero_le _, Nat.zero_le _⟩) (fun H locs hw => ?_)
  refine lv_if_eq hx hb d_M_isThread_5 (tgt := 29) rfl (fun hc => ?_) (fun hc => ?_)
  · have hf := (if_pos hc).symm.trans hf
    exact K29 σ1 H locs ls hf hw (lv_sub hl [] rfl)
  · have hf := (if_neg hc).symm.trans hf
    refine lv_iload_n hx hb d_M_isThread_8 rfl (lv_at hl 2 rfl) ?_
    refine lv_iconst (v := 0) hx hb d_M_isThread_9 (by decide) ?_
    refine lv_aload_n hx hb d_M_isThread_10 rfl (lv_at hl 0 rfl) ?_
    obtain ⟨q4, e_q4, h_q4, hf⟩ := zq_qs hf
    refine zr_get (ci := 8) G hw 1 2 zi_8 rfl rfl rfl (by decide) zm_616 (fun _ h => h) (v := .ref (ad q4)) (zs_fr rfl e_q4 h_q4) d_M_isThread_11 ?_
    obtain ⟨hs5, hf⟩ := zq_gs hf
    have hs5 := zq_ks hs5
    refine zr_get (ci := 9) G hw q4 5 zi_9 hs5 rfl rfl (by decide) zm_646 (fun _ h => h) (v := .int (zs_i σ1 q4 5)) rfl d_M_isThread_14 ?_
    refine lv_iconst (v := 1) hx hb d_M_isThread_17 (by decide) ?_
    refine lv_isub hx hb d_M_isThread_18 ?_
    obtain ⟨r7, σ6, hc8, hf⟩ := zq_cs hf
    refine zr_ci hw (zr_runS (rest := []) G hw [.int x2, .int 0, .int ((zs_i σ1 q4 5) - 1)] (zc_M_in hJ hc8) (va_cwS 3 hts (zs_gS zm_614 zm_615 zm_551 zm_613) rfl rfl rfl (by decide +kernel) ⟨Nat.le_trans (by decide) hR1, Nat.le_trans (by decide) hR2⟩) rfl hl.1 (Nat.le_of_ble_eq_true rfl) d_M_isThread_19 ⟨Nat.zero_le _, Nat.zero_le _⟩) (fun H locs hw => ?_)
    refine lv_if_eq hx hb d_M_isThread_22 (tgt := 29) rfl (fun hc => ?_) (fun hc => ?_)
    · have hf := (if_pos hc).symm.trans hf
      exact K29 σ6 H locs ls hf hw (lv_sub hl [] rfl)
    · have hf := (if_neg hc).symm.trans hf
      refine lv_iconst (v := 1) hx hb d_M_isThread_25 (by decide) ?_
      refine lv_goto hx hb d_M_isThread_26 (tgt := 30) rfl ?_
      exact K30 1 σ6 H locs ls hf hw (lv_sub hl [] rfl)
/-! ScheduleCheckModel.local -/
def y_M_local : MethodName := ⟨"ScheduleCheckModel","local","(III)I"⟩
theorem d_M_local_0 : decode prog_13_method_47_code 0 = .ok (.aload_n 0, 1) := by decide +kernel
theorem d_M_local_1 : decode prog_13_method_47_code 1 = .ok (.iload_n 1, 1) := by decide +kernel
theorem d_M_local_2 : decode prog_13_method_47_code 2 = .ok (.iload_n 2, 1) := by decide +kernel
theorem d_M_local_3 : decode prog_13_method_47_code 3 = .ok (.invokevirtual 369, 3) := by decide +kernel
theorem d_M_local_6 : decode prog_13_method_47_code 6 = .ok (.ifCond .eq 44, 3) := by decide +kernel
theorem d_M_local_9 : decode prog_13_method_47_code 9 = .ok (.iload_n 3, 1) := by decide +kernel
theorem d_M_local_10 : decode prog_13_method_47_code 10 = .ok (.iconst 0, 1) := by decide +kernel
theorem d_M_local_11 : decode prog_13_method_47_code 11 = .ok (.aload_n 0, 1) := by decide +kernel
theorem d_M_local_12 : decode prog_13_method_47_code 12 = .ok (.getfield 16, 3) := by decide +kernel
theorem d_M_local_15 : decode prog_13_method_47_code 15 = .ok (.getfield 209, 3) := by decide +kernel
theorem d_M_local_18 : decode prog_13_method_47_code 18 = .ok (.iload_n 2, 1) := by decide +kernel
theorem d_M_local_19 : decode prog_13_method_47_code 19 = .ok (.aaload, 1) := by decide +kernel
theorem d_M_local_20 : decode prog_13_method_47_code 20 = .ok (.getfield 156, 3) := by decide +kernel
theorem d_M_local_23 : decode prog_13_method_47_code 23 = .ok (.iconst 1, 1) := by decide +kernel
theorem d_M_local_24 : decode prog_13_method_47_code 24 = .ok (.isub, 1) := by decide +kernel
theorem d_M_local_25 : decode prog_13_method_47_code 25 = .ok (.invokestatic 62, 3) := by decide +kernel
theorem d_M_local_28 : decode prog_13_method_47_code 28 = .ok (.ifCond .eq 22, 3) := by decide +kernel
theorem d_M_local_31 : decode prog_13_method_47_code 31 = .ok (.aload_n 0, 1) := by decide +kernel
theorem d_M_local_32 : decode prog_13_method_47_code 32 = .ok (.getfield 27, 3) := by decide +kernel
theorem d_M_local_35 : decode prog_13_method_47_code 35 = .ok (.bipush 34, 2) := by decide +kernel
theorem d_M_local_37 : decode prog_13_method_47_code 37 = .ok (.iload_n 1, 1) := by decide +kernel
theorem d_M_local_38 : decode prog_13_method_47_code 38 = .ok (.imul, 1) := by decide +kernel
theorem d_M_local_39 : decode prog_13_method_47_code 39 = .ok (.iload_n 2, 1) := by decide +kernel
theorem d_M_local_40 : decode prog_13_method_47_code 40 = .ok (.invokestatic 296, 3) := by decide +kernel
theorem d_M_local_43 : decode prog_13_method_47_code 43 = .ok (.iadd, 1) := by decide +kernel
theorem d_M_local_44 : decode prog_13_method_47_code 44 = .ok (.iload_n 3, 1) := by decide +kernel
theorem d_M_local_45 : decode prog_13_method_47_code 45 = .ok (.iadd, 1) := by decide +kernel
theorem d_M_local_46 : decode prog_13_method_47_code 46 = .ok (.iaload, 1) := by decide +kernel
theorem d_M_local_47 : decode prog_13_method_47_code 47 = .ok (.goto 6, 3) := by decide +kernel
theorem d_M_local_50 : decode prog_13_method_47_code 50 = .ok (.sipush 1000, 3) := by decide +kernel
theorem d_M_local_53 : decode prog_13_method_47_code 53 = .ok (.ireturn, 1) := by decide +kernel
def zf_M_local_53 (F : Nat)  (t0 : Int32) (σ : zs_S) : Option (Int32 × zs_S) :=
  some (t0, σ)
def zf_M_local_50 (F : Nat)   (σ : zs_S) : Option (Int32 × zs_S) :=
  zf_M_local_53 F 1000 σ
def zf_M_local (F : Nat) (x1 : Int32) (x2 : Int32) (x3 : Int32) (σ : zs_S) : Option (Int32 × zs_S) :=
  zq_c (zf_M_isThread F x1 x2 σ) fun r2 σ1 =>
  if r2 = 0 then (
    zf_M_local_50 F σ1
  ) else (
    zq_q (zs_r σ1 1 2) fun q4 =>
    zq_g (zq_k 1 q4 19) <|
    zq_q (zd_rf 1 q4 2) fun q6 =>
    zq_g (zq_k 1 q6 6) <|
    zq_g (zq_b x2 (zd_sh 1 q6).2) <|
    zq_q (zd_rf 1 q6 (x2).toNatClampNeg) fun q9 =>
    zq_g (zq_k 1 q9 20) <|
    zq_c (zf_M_in F x3 0 ((zs_i σ1 q9 2) - 1) σ1) fun r12 σ11 =>
    if r12 = 0 then (
      zf_M_local_50 F σ11
    ) else (
      zq_c (zf_M_each F x2 σ11) fun r15 σ14 =>
      zq_g (zq_b (((34 * x1) + r15) + x3) 27234) <|
      zf_M_local_53 F (zs_i σ14 58 (((34 * x1) + r15) + x3).toNatClampNeg) σ14
    )
  )
set_option maxHeartbeats 4000000 in
set_option maxRecDepth 100000 in
theorem zc_M_local {l : Launch} {D : va_G} {cA : Nat → ClassId} {ad : Nat → Nat} {A : Nat → Prop} {F : Nat} {x1 : Int32} {x2 : Int32} {x3 : Int32} {σ : zs_S} {q : Int32 × zs_S} (hJ : zs_J ad) (hf : zf_M_local F x1 x2 x3 σ = some q) : Met l y_M_local (.code y_M_local prog_13_method_47_code 4 (some .int) :: zd_ww) { frames := 3, cells := 0, slots := 0, locals := 65 } (va_Pc [.ref (ad 1), .int x1, .int x2, .int x3] (zs_U 1 D cA ad A σ)) (zs_Qi 1 D cA ad A q) 0 0 A := by
  refine Met.ofW (cc := prog_13_method_47_code) (maxL := 4) (ret := (some .int)) (by decide) rfl ?_
  intro p e s m args below meth c s₁ B hml hv
  obtain ⟨hargs, hP, hK, hD, hZ⟩ := hv
  have G : zs_G 1 p s m args c prog_13_method_47_code 4 "ScheduleCheckModel" D cA ad A := ⟨⟨B.exec, B.bytes, hml, findClass_of_methodNamed B.named, fun w h => atoms_spec B.pre w (List.mem_cons_of_mem _ h)⟩, hK, hJ, hZ⟩
  have hw : zs_I 1 D cA ad A s σ s.heap [] := ⟨hP, hD, va_S.rf⟩
  have hx := G.1.1
  have hb := G.1.2.1
  have hown := G.1.2.2.2.1
  have hts := G.1.2.2.2.2
  have hr := B.returns
  have hlocks := B.notSynchronized
  have he : entryFrame m args 4 = F0 m 0 ((lg_sl [.ref (ad 1), .int x1, .int x2, .int x3] ++ List.replicate (4 - (lg_sl [.ref (ad 1), .int x1, .int x2, .int x3]).length) Slot.unset).toArray) [] := by rw [hargs]; exact lg_entry_eq m _ 4
  have hl := lv_entry [.ref (ad 1), .int x1, .int x2, .int x3] (n := 4) (Nat.le_of_ble_eq_true rfl)
  rw [he]
  generalize (lg_sl [.ref (ad 1), .int x1, .int x2, .int x3] ++ List.replicate (4 - (lg_sl [.ref (ad 1), .int x1, .int x2, .int x3]).length) Slot.unset).toArray = ls at hl
  have hl : lv_has ls 4 [(0, .ref (ad 1)), (1, .int x1), (2, .int x2), (3, .int x3)] := hl
  obtain ⟨RR, hR⟩ : ∃ z, z = (headSpec (.code y_M_local prog_13_method_47_code 4 (some .int) :: zd_ww) { frames := 3, cells := 0, slots := 0, locals := 65 }).room := ⟨_, rfl⟩
  rw [← hR]
  obtain ⟨QQ, hQ⟩ : ∃ z, z = MQ below (zs_Qi 1 D cA ad A q) args s 0 0 A := ⟨_, rfl⟩
  rw [← hQ]
  have hR1 : 3 ≤ RR.frames := by rw [hR]; exact Nat.le_refl _
  have hR2 : 65 ≤ RR.locals := by rw [hR]; exact Nat.le_refl _
  generalize s.heap = H at hw ⊢
  generalize ([] : List Loc) = locs at hw ⊢
  have K53 : ∀ (t0 : Int32) (σ : zs_S) (H : Heap) (locs : List Loc) (ls : Array Slot), zf_M_local_53 F t0 σ = some q → zs_I 1 D cA ad A s σ H locs → lv_has ls 4 [] → W p l e RR s m args below meth c H locs 0 0 QQ (F0 m 53 ls [.int t0]) := by
    intro  t0 σ H locs ls hf hw hl
    unfold zf_M_local_53 at hf
    exact zr_iret G hw hr hlocks hf hQ d_M_local_53
  have K50 : ∀ (σ : zs_S) (H : Heap) (locs : List Loc) (ls : Array Slot), zf_M_local_50 F σ = some q → zs_I 1 D cA ad A s σ H locs → lv_has ls 4 [] → W p l e RR s m args below meth c H locs 0 0 QQ (F0 m 50 ls []) := by
    intro   σ H locs ls hf hw hl
    unfold zf_M_local_50 at hf
    refine lv_sipush (v := 1000) hx hb d_M_local_50 (by decide) ?_
    exact K53 1000 σ H locs ls hf hw (lv_sub hl [] rfl)
  unfold zf_M_local at hf
  refine lv_aload_n hx hb d_M_local_0 rfl (lv_at hl 0 rfl) ?_
  refine lv_iload_n hx hb d_M_local_1 rfl (lv_at hl 1 rfl) ?_
  refine lv_iload_n hx hb d_M_local_2 rfl (lv_at hl 2 rfl) ?_
  obtain ⟨r2, σ1, hc3, hf⟩ := zq_cs hf
  refine zr_ci hw (zr_runV (rest := []) (ci := 8) (o := 1) G hw [.int x1, .int x2] (zc_M_isThread hJ hc3) (cwV 2 hts (zs_gV zm_757 zm_758 zm_759 zm_551 zm_756) rfl rfl rfl (by decide +kernel) ⟨Nat.le_trans (by decide) hR1, Nat.le_trans (by decide) hR2⟩) rfl rfl rfl hl.1 (Nat.le_of_ble_eq_true rfl) d_M_local_3 ⟨Nat.zero_le _, Nat.zero_le _⟩) (fun H locs hw => ?_)
  refine lv_if_eq hx hb d_M_local_6 (tgt := 50) rfl (fun hc => ?_) (fun hc => ?_)
  · have hf := (if_pos hc).symm.trans hf
    exact K50 σ1 H locs ls hf hw (lv_sub hl [] rfl)
  · have hf := (if_neg hc).symm.trans hf
    refine lv_iload_n hx hb d_M_local_9 rfl (lv_at hl 3 rfl) ?_
    refine lv_iconst (v := 0) hx hb d_M_local_10 (by decide) ?_
    refine lv_aload_n hx hb d_M_local_11 rfl (lv_at hl 0 rfl) ?_
    obtain ⟨q4, e_q4, h_q4, hf⟩ := zq_qs hf
    refine zr_get (ci := 8) G hw 1 2 zi_8 rfl rfl rfl (by decide) zm_616 (fun _ h => h) (v := .ref (ad q4)) (zs_fr rfl e_q4 h_q4) d_M_local_12 ?_
    obtain ⟨hs5, hf⟩ := zq_gs hf
    have hs5 := zq_ks hs5
    obtain ⟨q6, e_q6, h_q6, hf⟩ := zq_qs hf
    refine zr_get (ci := 9) G hw q4 2 zi_9 hs5 rfl rfl (by decide) zm_727 (fun _ h => h) (v := .ref (ad q6)) (zs_fs rfl e_q6 h_q6) d_M_local_15 ?_
    refine lv_iload_n hx hb d_M_local_18 rfl (lv_at hl 2 rfl) ?_
    obtain ⟨hs7, hf⟩ := zq_gs hf
    have hs7 := zq_ks hs7
    obtain ⟨hi8, hf⟩ := zq_gs hf
    obtain ⟨q9, e_q9, h_q9, hf⟩ := zq_qs hf
    refine zr_aald6 G hw q6 hs7 rfl hi8 (by rw [← e_q9]; exact h_q9) d_M_local_19 ?_
    rw [← e_q9]
    obtain ⟨hs10, hf⟩ := zq_gs hf
    have hs10 := zq_ks hs10
    refine zr_get (ci := 10) G hw q9 2 zi_10 hs10 rfl rfl (by decide) zm_596 (fun _ h => h) (v := .int (zs_i σ1 q9 2)) rfl d_M_local_20 ?_
    refine lv_iconst (v := 1) hx hb d_M_local_23 (by decide) ?_
    refine lv_isub hx hb d_M_local_24 ?_
    obtain ⟨r12, σ11, hc13, hf⟩ := zq_cs hf
    refine zr_ci hw (zr_runS (rest := []) G hw [.int x3, .int 0, .int ((zs_i σ1 q9 2) - 1)] (zc_M_in hJ hc13) (va_cwS 3 hts (zs_gS zm_614 zm_615 zm_551 zm_613) rfl rfl rfl (by decide +kernel) ⟨Nat.le_trans (by decide) hR1, Nat.le_trans (by decide) hR2⟩) rfl hl.1 (Nat.le_of_ble_eq_true rfl) d_M_local_25 ⟨Nat.zero_le _, Nat.zero_le _⟩) (fun H locs hw => ?_)
    refine lv_if_eq hx hb d_M_local_28 (tgt := 50) rfl (fun hc => ?_) (fun hc => ?_)
    · have hf := (if_pos hc).symm.trans hf
      exact K50 σ11 H locs ls hf hw (lv_sub hl [] rfl)
    · have hf := (if_neg hc).symm.trans hf
      refine lv_aload_n hx hb d_M_local_31 rfl (lv_at hl 0 rfl) ?_
      refine zr_get (ci := 8) G hw 1 17 zi_8 rfl rfl rfl (by decide) zm_627 (fun _ h => h) (v := .ref (ad 58)) rfl d_M_local_32 ?_
      refine lv_bipush (v := 34) hx hb d_M_local_35 (by decide) ?_
      refine lv_iload_n hx hb d_M_local_37 rfl (lv_at hl 1 rfl) ?_
      refine lv_imul hx hb d_M_local_38 ?_
      refine lv_iload_n hx hb d_M_local_39 rfl (lv_at hl 2 rfl) ?_
      obtain ⟨r15, σ14, hc16, hf⟩ := zq_cs hf
      refine zr_ci hw (zr_runS (rest := [.int (34 * x1), .ref (ad 58)]) G hw [.int x2] (zc_M_each hJ hc16) (va_cwS 1 hts (zs_gS zm_623 zm_624 zm_551 zm_622) rfl rfl rfl (by decide +kernel) ⟨Nat.le_trans (by decide) hR1, Nat.le_trans (by decide) hR2⟩) rfl hl.1 (Nat.le_of_ble_eq_true rfl) d_M_local_40 ⟨Nat.zero_le _, Nat.zero_le _⟩) (fun H locs hw => ?_)
      refine lv_iadd hx hb d_M_local_43 ?_
      refine lv_iload_n hx hb d_M_local_44 rfl (lv_at hl 3 rfl) ?_
      refine lv_iadd hx hb d_M_local_45 ?_
      obtain ⟨hi17, hf⟩ := zq_gs hf
      refine zr_iald G hw 58 rfl rfl hi17 d_M_local_46 ?_
      refine lv_goto hx hb d_M_local_47 (tgt := 53) rfl ?_
      exact K53 (zs_i σ14 58 (((34 * x1) + r15) + x3).toNatClampNeg) σ14 H locs ls hf hw (lv_sub hl [] rfl)
/-! ScheduleCheckModel.place -/
def y_M_place : MethodName := ⟨"ScheduleCheckModel","place","(II)I"⟩
theorem d_M_place_0 : decode prog_13_method_48_code 0 = .ok (.aload_n 0, 1) := by decide +kernel
theorem d_M_place_1 : decode prog_13_method_48_code 1 = .ok (.iload_n 1, 1) := by decide +kernel
theorem d_M_place_2 : decode prog_13_method_48_code 2 = .ok (.iload_n 2, 1) := by decide +kernel
theorem d_M_place_3 : decode prog_13_method_48_code 3 = .ok (.invokevirtual 369, 3) := by decide +kernel
theorem d_M_place_6 : decode prog_13_method_48_code 6 = .ok (.ifCond .eq 22, 3) := by decide +kernel
theorem d_M_place_9 : decode prog_13_method_48_code 9 = .ok (.aload_n 0, 1) := by decide +kernel
theorem d_M_place_10 : decode prog_13_method_48_code 10 = .ok (.getfield 27, 3) := by decide +kernel
theorem d_M_place_13 : decode prog_13_method_48_code 13 = .ok (.bipush 34, 2) := by decide +kernel
theorem d_M_place_15 : decode prog_13_method_48_code 15 = .ok (.iload_n 1, 1) := by decide +kernel
theorem d_M_place_16 : decode prog_13_method_48_code 16 = .ok (.imul, 1) := by decide +kernel
theorem d_M_place_17 : decode prog_13_method_48_code 17 = .ok (.iload_n 2, 1) := by decide +kernel
theorem d_M_place_18 : decode prog_13_method_48_code 18 = .ok (.invokestatic 296, 3) := by decide +kernel
theorem d_M_place_21 : decode prog_13_method_48_code 21 = .ok (.iadd, 1) := by decide +kernel
theorem d_M_place_22 : decode prog_13_method_48_code 22 = .ok (.iconst 3, 1) := by decide +kernel
theorem d_M_place_23 : decode prog_13_method_48_code 23 = .ok (.iadd, 1) := by decide +kernel
theorem d_M_place_24 : decode prog_13_method_48_code 24 = .ok (.iaload, 1) := by decide +kernel
theorem d_M_place_25 : decode prog_13_method_48_code 25 = .ok (.goto 5, 3) := by decide +kernel
theorem d_M_place_28 : decode prog_13_method_48_code 28 = .ok (.bipush (-2), 2) := by decide +kernel
theorem d_M_place_30 : decode prog_13_method_48_code 30 = .ok (.ireturn, 1) := by decide +kernel
def zf_M_place_30 (F : Nat)  (t0 : Int32) (σ : zs_S) : Option (Int32 × zs_S) :=
  some (t0, σ)
def zf_M_place (F : Nat) (x1 : Int32) (x2 : Int32) (σ : zs_S) : Option (Int32 × zs_S) :=
  zq_c (zf_M_isThread F x1 x2 σ) fun r2 σ1 =>
  if r2 = 0 then (
    zf_M_place_30 F ((-2)) σ1
  ) else (
    zq_c (zf_M_each F x2 σ1) fun r5 σ4 =>
    zq_g (zq_b (((34 * x1) + r5) + 3) 27234) <|
    zf_M_place_30 F (zs_i σ4 58 (((34 * x1) + r5) + 3).toNatClampNeg) σ4
  )
set_option maxHeartbeats 4000000 in
set_option maxRecDepth 100000 in
theorem zc_M_place {l : Launch} {D : va_G} {cA : Nat → ClassId} {ad : Nat → Nat} {A : Nat → Prop} {F : Nat} {x1 : Int32} {x2 : Int32} {σ : zs_S} {q : Int32 × zs_S} (hJ : zs_J ad) (hf : zf_M_place F x1 x2 σ = some q) : Met l y_M_place (.code y_M_place prog_13_method_48_code 3 (some .int) :: zd_ww) { frames := 3, cells := 0, slots := 0, locals := 65 } (va_Pc [.ref (ad 1), .int x1, .int x2] (zs_U 1 D cA ad A σ)) (zs_Qi 1 D cA ad A q) 0 0 A := by
  refine Met.ofW (cc := prog_13_method_48_code) (maxL := 3) (ret := (some .int)) (by decide) rfl ?_
  intro p e s m args below meth c s₁ B hml hv
  obtain ⟨hargs, hP, hK, hD, hZ⟩ := hv
  have G : zs_G 1 p s m args c prog_13_method_48_code 3 "ScheduleCheckModel" D cA ad A := ⟨⟨B.exec, B.bytes, hml, findClass_of_methodNamed B.named, fun w h => atoms_spec B.pre w (List.mem_cons_of_mem _ h)⟩, hK, hJ, hZ⟩
  have hw : zs_I 1 D cA ad A s σ s.heap [] := ⟨hP, hD, va_S.rf⟩
  have hx := G.1.1
  have hb := G.1.2.1
  have hown := G.1.2.2.2.1
  have hts := G.1.2.2.2.2
  have hr := B.returns
  have hlocks := B.notSynchronized
  have he : entryFrame m args 3 = F0 m 0 ((lg_sl [.ref (ad 1), .int x1, .int x2] ++ List.replicate (3 - (lg_sl [.ref (ad 1), .int x1, .int x2]).length) Slot.unset).toArray) [] := by rw [hargs]; exact lg_entry_eq m _ 3
  have hl := lv_entry [.ref (ad 1), .int x1, .int x2] (n := 3) (Nat.le_of_ble_eq_true rfl)
  rw [he]
  generalize (lg_sl [.ref (ad 1), .int x1, .int x2] ++ List.replicate (3 - (lg_sl [.ref (ad 1), .int x1, .int x2]).length) Slot.unset).toArray = ls at hl
  have hl : lv_has ls 3 [(0, .ref (ad 1)), (1, .int x1), (2, .int x2)] := hl
  obtain ⟨RR, hR⟩ : ∃ z, z = (headSpec (.code y_M_place prog_13_method_48_code 3 (some .int) :: zd_ww) { frames := 3, cells := 0, slots := 0, locals := 65 }).room := ⟨_, rfl⟩
  rw [← hR]
  obtain ⟨QQ, hQ⟩ : ∃ z, z = MQ below (zs_Qi 1 D cA ad A q) args s 0 0 A := ⟨_, rfl⟩
  rw [← hQ]
  have hR1 : 3 ≤ RR.frames := by rw [hR]; exact Nat.le_refl _
  have hR2 : 65 ≤ RR.locals := by rw [hR]; exact Nat.le_refl _
  generalize s.heap = H at hw ⊢
  generalize ([] : List Loc) = locs at hw ⊢
  have K30 : ∀ (t0 : Int32) (σ : zs_S) (H : Heap) (locs : List Loc) (ls : Array Slot), zf_M_place_30 F t0 σ = some q → zs_I 1 D cA ad A s σ H locs → lv_has ls 3 [] → W p l e RR s m args below meth c H locs 0 0 QQ (F0 m 30 ls [.int t0]) := by
    intro  t0 σ H locs ls hf hw hl
    unfold zf_M_place_30 at hf
    exact zr_iret G hw hr hlocks hf hQ d_M_place_30
  unfold zf_M_place at hf
  refine lv_aload_n hx hb d_M_place_0 rfl (lv_at hl 0 rfl) ?_
  refine lv_iload_n hx hb d_M_place_1 rfl (lv_at hl 1 rfl) ?_
  refine lv_iload_n hx hb d_M_place_2 rfl (lv_at hl 2 rfl) ?_
  obtain ⟨r2, σ1, hc3, hf⟩ := zq_cs hf
  refine zr_ci hw (zr_runV (rest := []) (ci := 8) (o := 1) G hw [.int x1, .int x2] (zc_M_isThread hJ hc3) (cwV 2 hts (zs_gV zm_757 zm_758 zm_759 zm_551 zm_756) rfl rfl rfl (by decide +kernel) ⟨Nat.le_trans (by decide) hR1, Nat.le_trans (by decide) hR2⟩) rfl rfl rfl hl.1 (Nat.le_of_ble_eq_true rfl) d_M_place_3 ⟨Nat.zero_le _, Nat.zero_le _⟩) (fun H locs hw => ?_)
  refine lv_if_eq hx hb d_M_place_6 (tgt := 28) rfl (fun hc => ?_) (fun hc => ?_)
  · have hf := (if_pos hc).symm.trans hf
    refine lv_bipush (v := (-2)) hx hb d_M_place_28 (by decide) ?_
    exact K30 ((-2)) σ1 H locs ls hf hw (lv_sub hl [] rfl)
  · have hf := (if_neg hc).symm.trans hf
    refine lv_aload_n hx hb d_M_place_9 rfl (lv_at hl 0 rfl) ?_
    refine zr_get (ci := 8) G hw 1 17 zi_8 rfl rfl rfl (by decide) zm_627 (fun _ h => h) (v := .ref (ad 58)) rfl d_M_place_10 ?_
    refine lv_bipush (v := 34) hx hb d_M_place_13 (by decide) ?_
    refine lv_iload_n hx hb d_M_place_15 rfl (lv_at hl 1 rfl) ?_
    refine lv_imul hx hb d_M_place_16 ?_
    refine lv_iload_n hx hb d_M_place_17 rfl (lv_at hl 2 rfl) ?_
    obtain ⟨r5, σ4, hc6, hf⟩ := zq_cs hf
    refine zr_ci hw (zr_runS (rest := [.int (34 * x1), .ref (ad 58)]) G hw [.int x2] (zc_M_each hJ hc6) (va_cwS 1 hts (zs_gS zm_623 zm_624 zm_551 zm_622) rfl rfl rfl (by decide +kernel) ⟨Nat.le_trans (by decide) hR1, Nat.le_trans (by decide) hR2⟩) rfl hl.1 (Nat.le_of_ble_eq_true rfl) d_M_place_18 ⟨Nat.zero_le _, Nat.zero_le _⟩) (fun H locs hw => ?_)
    refine lv_iadd hx hb d_M_place_21 ?_
    refine lv_iconst (v := 3) hx hb d_M_place_22 (by decide) ?_
    refine lv_iadd hx hb d_M_place_23 ?_
    obtain ⟨hi7, hf⟩ := zq_gs hf
    refine zr_iald G hw 58 rfl rfl hi7 d_M_place_24 ?_
    refine lv_goto hx hb d_M_place_25 (tgt := 30) rfl ?_
    exact K30 (zs_i σ4 58 (((34 * x1) + r5) + 3).toNatClampNeg) σ4 H locs ls hf hw (lv_sub hl [] rfl)
/-! ScheduleCheckModel.owner -/
def y_M_owner : MethodName := ⟨"ScheduleCheckModel","owner","(II)I"⟩
theorem d_M_owner_0 : decode prog_13_method_49_code 0 = .ok (.aload_n 0, 1) := by decide +kernel
theorem d_M_owner_1 : decode prog_13_method_49_code 1 = .ok (.iload_n 1, 1) := by decide +kernel
theorem d_M_owner_2 : decode prog_13_method_49_code 2 = .ok (.invokevirtual 366, 3) := by decide +kernel
theorem d_M_owner_5 : decode prog_13_method_49_code 5 = .ok (.ifCond .eq 40, 3) := by decide +kernel
theorem d_M_owner_8 : decode prog_13_method_49_code 8 = .ok (.iload_n 2, 1) := by decide +kernel
theorem d_M_owner_9 : decode prog_13_method_49_code 9 = .ok (.iconst 0, 1) := by decide +kernel
theorem d_M_owner_10 : decode prog_13_method_49_code 10 = .ok (.aload_n 0, 1) := by decide +kernel
theorem d_M_owner_11 : decode prog_13_method_49_code 11 = .ok (.getfield 16, 3) := by decide +kernel
theorem d_M_owner_14 : decode prog_13_method_49_code 14 = .ok (.getfield 161, 3) := by decide +kernel
theorem d_M_owner_17 : decode prog_13_method_49_code 17 = .ok (.getfield 156, 3) := by decide +kernel
theorem d_M_owner_20 : decode prog_13_method_49_code 20 = .ok (.iconst 1, 1) := by decide +kernel
theorem d_M_owner_21 : decode prog_13_method_49_code 21 = .ok (.isub, 1) := by decide +kernel
theorem d_M_owner_22 : decode prog_13_method_49_code 22 = .ok (.invokestatic 62, 3) := by decide +kernel
theorem d_M_owner_25 : decode prog_13_method_49_code 25 = .ok (.ifCond .eq 20, 3) := by decide +kernel
theorem d_M_owner_28 : decode prog_13_method_49_code 28 = .ok (.aload_n 0, 1) := by decide +kernel
theorem d_M_owner_29 : decode prog_13_method_49_code 29 = .ok (.getfield 27, 3) := by decide +kernel
theorem d_M_owner_32 : decode prog_13_method_49_code 32 = .ok (.bipush 34, 2) := by decide +kernel
theorem d_M_owner_34 : decode prog_13_method_49_code 34 = .ok (.iload_n 1, 1) := by decide +kernel
theorem d_M_owner_35 : decode prog_13_method_49_code 35 = .ok (.imul, 1) := by decide +kernel
theorem d_M_owner_36 : decode prog_13_method_49_code 36 = .ok (.bipush 8, 2) := by decide +kernel
theorem d_M_owner_38 : decode prog_13_method_49_code 38 = .ok (.iadd, 1) := by decide +kernel
theorem d_M_owner_39 : decode prog_13_method_49_code 39 = .ok (.iload_n 2, 1) := by decide +kernel
theorem d_M_owner_40 : decode prog_13_method_49_code 40 = .ok (.iadd, 1) := by decide +kernel
theorem d_M_owner_41 : decode prog_13_method_49_code 41 = .ok (.iaload, 1) := by decide +kernel
theorem d_M_owner_42 : decode prog_13_method_49_code 42 = .ok (.goto 5, 3) := by decide +kernel
theorem d_M_owner_45 : decode prog_13_method_49_code 45 = .ok (.bipush (-2), 2) := by decide +kernel
theorem d_M_owner_47 : decode prog_13_method_49_code 47 = .ok (.ireturn, 1) := by decide +kernel
def zf_M_owner_47 (F : Nat)  (t0 : Int32) (σ : zs_S) : Option (Int32 × zs_S) :=
  some (t0, σ)
def zf_M_owner_45 (F : Nat)   (σ : zs_S) : Option (Int32 × zs_S) :=
  zf_M_owner_47 F ((-2)) σ
def zf_M_owner (F : Nat) (x1 : Int32) (x2 : Int32) (σ : zs_S) : Option (Int32 × zs_S) :=
  zq_c (zf_M_isIn F x1 σ) fun r2 σ1 =>
  if r2 = 0 then (
    zf_M_owner_45 F σ1
  ) else (
    zq_q (zs_r σ1 1 2) fun q4 =>
    zq_g (zq_k 1 q4 19) <|
    zq_q (zd_rf 1 q4 1) fun q6 =>
    zq_g (zq_k 1 q6 20) <|
    zq_c (zf_M_in F x2 0 ((zs_i σ1 q6 2) - 1) σ1) fun r9 σ8 =>
    if r9 = 0 then (
      zf_M_owner_45 F σ8
    ) else (
      zq_g (zq_b (((34 * x1) + 8) + x2) 27234) <|
      zf_M_owner_47 F (zs_i σ8 58 (((34 * x1) + 8) + x2).toNatClampNeg) σ8
    )
  )
set_option maxHeartbeats 4000000 in
set_option maxRecDepth 100000 in
theorem zc_M_owner {l : Launch} {D : va_G} {cA : Nat → ClassId} {ad : Nat → Nat} {A : Nat → Prop} {F : Nat} {x1 : Int32} {x2 : Int32} {σ : zs_S} {q : Int32 × zs_S} (hJ : zs_J ad) (hf : zf_M_owner F x1 x2 σ = some q) : Met l y_M_owner (.code y_M_owner prog_13_method_49_code 3 (some .int) :: zd_ww) { frames := 2, cells := 0, slots := 0, locals := 43 } (va_Pc [.ref (ad 1), .int x1, .int x2] (zs_U 1 D cA ad A σ)) (zs_Qi 1 D cA ad A q) 0 0 A := by
  refine Met.ofW (cc := prog_13_method_49_code) (maxL := 3) (ret := (some .int)) (by decide) rfl ?_
  intro p e s m args below meth c s₁ B hml hv
  obtain ⟨hargs, hP, hK, hD, hZ⟩ := hv
  have G : zs_G 1 p s m args c prog_13_method_49_code 3 "ScheduleCheckModel" D cA ad A := ⟨⟨B.exec, B.bytes, hml, findClass_of_methodNamed B.named, fun w h => atoms_spec B.pre w (List.mem_cons_of_mem _ h)⟩, hK, hJ, hZ⟩
  have hw : zs_I 1 D cA ad A s σ s.heap [] := ⟨hP, hD, va_S.rf⟩
  have hx := G.1.1
  have hb := G.1.2.1
  have hown := G.1.2.2.2.1
  have hts := G.1.2.2.2.2
  have hr := B.returns
  have hlocks := B.notSynchronized
  have he : entryFrame m args 3 = F0 m 0 ((lg_sl [.ref (ad 1), .int x1, .int x2] ++ List.replicate (3 - (lg_sl [.ref (ad 1), .int x1, .int x2]).length) Slot.unset).toArray) [] := by rw [hargs]; exact lg_entry_eq m _ 3
  have hl := lv_entry [.ref (ad 1), .int x1, .int x2] (n := 3) (Nat.le_of_ble_eq_true rfl)
  rw [he]
  generalize (lg_sl [.ref (ad 1), .int x1, .int x2] ++ List.replicate (3 - (lg_sl [.ref (ad 1), .int x1, .int x2]).length) Slot.unset).toArray = ls at hl
  have hl : lv_has ls 3 [(0, .ref (ad 1)), (1, .int x1), (2, .int x2)] := hl
  obtain ⟨RR, hR⟩ : ∃ z, z = (headSpec (.code y_M_owner prog_13_method_49_code 3 (some .int) :: zd_ww) { frames := 2, cells := 0, slots := 0, locals := 43 }).room := ⟨_, rfl⟩
  rw [← hR]
  obtain ⟨QQ, hQ⟩ : ∃ z, z = MQ below (zs_Qi 1 D cA ad A q) args s 0 0 A := ⟨_, rfl⟩
  rw [← hQ]
  have hR1 : 2 ≤ RR.frames := by rw [hR]; exact Nat.le_refl _
  have hR2 : 43 ≤ RR.locals := by rw [hR]; exact Nat.le_refl _
  generalize s.heap = H at hw ⊢
  generalize ([] : List Loc) = locs at hw ⊢
  have K47 : ∀ (t0 : Int32) (σ : zs_S) (H : Heap) (locs : List Loc) (ls : Array Slot), zf_M_owner_47 F t0 σ = some q → zs_I 1 D cA ad A s σ H locs → lv_has ls 3 [] → W p l e RR s m args below meth c H locs 0 0 QQ (F0 m 47 ls [.int t0]) := by
    intro  t0 σ H locs ls hf hw hl
    unfold zf_M_owner_47 at hf
    exact zr_iret G hw hr hlocks hf hQ d_M_owner_47
  have K45 : ∀ (σ : zs_S) (H : Heap) (locs : List Loc) (ls : Array Slot), zf_M_owner_45 F σ = some q → zs_I 1 D cA ad A s σ H locs → lv_has ls 3 [] → W p l e RR s m args below meth c H locs 0 0 QQ (F0 m 45 ls []) := by
    intro   σ H locs ls hf hw hl
    unfold zf_M_owner_45 at hf
    refine lv_bipush (v := (-2)) hx hb d_M_owner_45 (by decide) ?_
    exact K47 ((-2)) σ H locs ls hf hw (lv_sub hl [] rfl)
  unfold zf_M_owner at hf
  refine lv_aload_n hx hb d_M_owner_0 rfl (lv_at hl 0 rfl) ?_
  refine lv_iload_n hx hb d_M_owner_1 rfl (lv_at hl 1 rfl) ?_
  obtain ⟨r2, σ1, hc3, hf⟩ := zq_cs hf
  refine zr_ci hw (zr_runV (rest := []) (ci := 8) (o := 1) G hw [.int x1] (zc_M_isIn hJ hc3) (cwV 1 hts (zs_gV zm_753 zm_754 zm_755 zm_551 zm_752) rfl rfl rfl (by decide +kernel) ⟨Nat.le_trans (by decide) hR1, Nat.le_trans (by decide) hR2⟩) rfl rfl rfl hl.1 (Nat.le_of_ble_eq_true rfl) d_M_owner_2 ⟨Nat.zero_le _, Nat.zero_le _⟩) (fun H locs hw => ?_)
  refine lv_if_eq hx hb d_M_owner_5 (tgt := 45) rfl (fun hc => ?_) (fun hc => ?_)
  · have hf := (if_pos hc).symm.trans hf
    exact K45 σ1 H locs ls hf hw (lv_sub hl [] rfl)
  · have hf := (if_neg hc).symm.trans hf
    refine lv_iload_n hx hb d_M_owner_8 rfl (lv_at hl 2 rfl) ?_
    refine lv_iconst (v := 0) hx hb d_M_owner_9 (by decide) ?_
    refine lv_aload_n hx hb d_M_owner_10 rfl (lv_at hl 0 rfl) ?_
    obtain ⟨q4, e_q4, h_q4, hf⟩ := zq_qs hf
    refine zr_get (ci := 8) G hw 1 2 zi_8 rfl rfl rfl (by decide) zm_616 (fun _ h => h) (v := .ref (ad q4)) (zs_fr rfl e_q4 h_q4) d_M_owner_11 ?_
    obtain ⟨hs5, hf⟩ := zq_gs hf
    have hs5 := zq_ks hs5
    obtain ⟨q6, e_q6, h_q6, hf⟩ := zq_qs hf
    refine zr_get (ci := 9) G hw q4 1 zi_9 hs5 rfl rfl (by decide) zm_590 (fun _ h => h) (v := .ref (ad q6)) (zs_fs rfl e_q6 h_q6) d_M_owner_14 ?_
    obtain ⟨hs7, hf⟩ := zq_gs hf
    have hs7 := zq_ks hs7
    refine zr_get (ci := 10) G hw q6 2 zi_10 hs7 rfl rfl (by decide) zm_596 (fun _ h => h) (v := .int (zs_i σ1 q6 2)) rfl d_M_owner_17 ?_
    refine lv_iconst (v := 1) hx hb d_M_owner_20 (by decide) ?_
    refine lv_isub hx hb d_M_owner_21 ?_
    obtain ⟨r9, σ8, hc10, hf⟩ := zq_cs hf
    refine zr_ci hw (zr_runS (rest := []) G hw [.int x2, .int 0, .int ((zs_i σ1 q6 2) - 1)] (zc_M_in hJ hc10) (va_cwS 3 hts (zs_gS zm_614 zm_615 zm_551 zm_613) rfl rfl rfl (by decide +kernel) ⟨Nat.le_trans (by decide) hR1, Nat.le_trans (by decide) hR2⟩) rfl hl.1 (Nat.le_of_ble_eq_true rfl) d_M_owner_22 ⟨Nat.zero_le _, Nat.zero_le _⟩) (fun H locs hw => ?_)
    refine lv_if_eq hx hb d_M_owner_25 (tgt := 45) rfl (fun hc => ?_) (fun hc => ?_)
    · have hf := (if_pos hc).symm.trans hf
      exact K45 σ8 H locs ls hf hw (lv_sub hl [] rfl)
    · have hf := (if_neg hc).symm.trans hf
      refine lv_aload_n hx hb d_M_owner_28 rfl (lv_at hl 0 rfl) ?_
      refine zr_get (ci := 8) G hw 1 17 zi_8 rfl rfl rfl (by decide) zm_627 (fun _ h => h) (v := .ref (ad 58)) rfl d_M_owner_29 ?_
      refine lv_bipush (v := 34) hx hb d_M_owner_32 (by decide) ?_
      refine lv_iload_n hx hb d_M_owner_34 rfl (lv_at hl 1 rfl) ?_
      refine lv_imul hx hb d_M_owner_35 ?_
      refine lv_bipush (v := 8) hx hb d_M_owner_36 (by decide) ?_
      refine lv_iadd hx hb d_M_owner_38 ?_
      refine lv_iload_n hx hb d_M_owner_39 rfl (lv_at hl 2 rfl) ?_
      refine lv_iadd hx hb d_M_owner_40 ?_
      obtain ⟨hi11, hf⟩ := zq_gs hf
      refine zr_iald G hw 58 rfl rfl hi11 d_M_owner_41 ?_
      refine lv_goto hx hb d_M_owner_42 (tgt := 47) rfl ?_
      exact K47 (zs_i σ8 58 (((34 * x1) + 8) + x2).toNatClampNeg) σ8 H locs ls hf hw (lv_sub hl [] rfl)
/-! ScheduleCheckModel.waits -/
def y_M_waits : MethodName := ⟨"ScheduleCheckModel","waits","(II)I"⟩
theorem d_M_waits_0 : decode prog_13_method_50_code 0 = .ok (.aload_n 0, 1) := by decide +kernel
theorem d_M_waits_1 : decode prog_13_method_50_code 1 = .ok (.iload_n 1, 1) := by decide +kernel
theorem d_M_waits_2 : decode prog_13_method_50_code 2 = .ok (.iload_n 2, 1) := by decide +kernel
theorem d_M_waits_3 : decode prog_13_method_50_code 3 = .ok (.invokevirtual 369, 3) := by decide +kernel
theorem d_M_waits_6 : decode prog_13_method_50_code 6 = .ok (.ifCond .eq 22, 3) := by decide +kernel
theorem d_M_waits_9 : decode prog_13_method_50_code 9 = .ok (.aload_n 0, 1) := by decide +kernel
theorem d_M_waits_10 : decode prog_13_method_50_code 10 = .ok (.getfield 27, 3) := by decide +kernel
theorem d_M_waits_13 : decode prog_13_method_50_code 13 = .ok (.bipush 34, 2) := by decide +kernel
theorem d_M_waits_15 : decode prog_13_method_50_code 15 = .ok (.iload_n 1, 1) := by decide +kernel
theorem d_M_waits_16 : decode prog_13_method_50_code 16 = .ok (.imul, 1) := by decide +kernel
theorem d_M_waits_17 : decode prog_13_method_50_code 17 = .ok (.iload_n 2, 1) := by decide +kernel
theorem d_M_waits_18 : decode prog_13_method_50_code 18 = .ok (.invokestatic 296, 3) := by decide +kernel
theorem d_M_waits_21 : decode prog_13_method_50_code 21 = .ok (.iadd, 1) := by decide +kernel
theorem d_M_waits_22 : decode prog_13_method_50_code 22 = .ok (.iconst 4, 1) := by decide +kernel
theorem d_M_waits_23 : decode prog_13_method_50_code 23 = .ok (.iadd, 1) := by decide +kernel
theorem d_M_waits_24 : decode prog_13_method_50_code 24 = .ok (.iaload, 1) := by decide +kernel
theorem d_M_waits_25 : decode prog_13_method_50_code 25 = .ok (.goto 5, 3) := by decide +kernel
theorem d_M_waits_28 : decode prog_13_method_50_code 28 = .ok (.bipush (-2), 2) := by decide +kernel
theorem d_M_waits_30 : decode prog_13_method_50_code 30 = .ok (.ireturn, 1) := by decide +kernel
def zf_M_waits_30 (F : Nat)  (t0 : Int32) (σ : zs_S) : Option (Int32 × zs_S) :=
  some (t0, σ)
def zf_M_waits (F : Nat) (x1 : Int32) (x2 : Int32) (σ : zs_S) : Option (Int32 × zs_S) :=
  zq_c (zf_M_isThread F x1 x2 σ) fun r2 σ1 =>
  if r2 = 0 then (
    zf_M_waits_30 F ((-2)) σ1
  ) else (
    zq_c (zf_M_each F x2 σ1) fun r5 σ4 =>
    zq_g (zq_b (((34 * x1) + r5) + 4) 27234) <|
    zf_M_waits_30 F (zs_i σ4 58 (((34 * x1) + r5) + 4).toNatClampNeg) σ4
  )
set_option maxHeartbeats 4000000 in
set_option maxRecDepth 100000 in
theorem zc_M_waits {l : Launch} {D : va_G} {cA : Nat → ClassId} {ad : Nat → Nat} {A : Nat → Prop} {F : Nat} {x1 : Int32} {x2 : Int32} {σ : zs_S} {q : Int32 × zs_S} (hJ : zs_J ad) (hf : zf_M_waits F x1 x2 σ = some q) : Met l y_M_waits (.code y_M_waits prog_13_method_50_code 3 (some .int) :: zd_ww) { frames := 3, cells := 0, slots := 0, locals := 65 } (va_Pc [.ref (ad 1), .int x1, .int x2] (zs_U 1 D cA ad A σ)) (zs_Qi 1 D cA ad A q) 0 0 A := by
  refine Met.ofW (cc := prog_13_method_50_code) (maxL := 3) (ret := (some .int)) (by decide) rfl ?_
  intro p e s m args below meth c s₁ B hml hv
  obtain ⟨hargs, hP, hK, hD, hZ⟩ := hv
  have G : zs_G 1 p s m args c prog_13_method_50_code 3 "ScheduleCheckModel" D cA ad A := ⟨⟨B.exec, B.bytes, hml, findClass_of_methodNamed B.named, fun w h => atoms_spec B.pre w (List.mem_cons_of_mem _ h)⟩, hK, hJ, hZ⟩
  have hw : zs_I 1 D cA ad A s σ s.heap [] := ⟨hP, hD, va_S.rf⟩
  have hx := G.1.1
  have hb := G.1.2.1
  have hown := G.1.2.2.2.1
  have hts := G.1.2.2.2.2
  have hr := B.returns
  have hlocks := B.notSynchronized
  have he : entryFrame m args 3 = F0 m 0 ((lg_sl [.ref (ad 1), .int x1, .int x2] ++ List.replicate (3 - (lg_sl [.ref (ad 1), .int x1, .int x2]).length) Slot.unset).toArray) [] := by rw [hargs]; exact lg_entry_eq m _ 3
  have hl := lv_entry [.ref (ad 1), .int x1, .int x2] (n := 3) (Nat.le_of_ble_eq_true rfl)
  rw [he]
  generalize (lg_sl [.ref (ad 1), .int x1, .int x2] ++ List.replicate (3 - (lg_sl [.ref (ad 1), .int x1, .int x2]).length) Slot.unset).toArray = ls at hl
  have hl : lv_has ls 3 [(0, .ref (ad 1)), (1, .int x1), (2, .int x2)] := hl
  obtain ⟨RR, hR⟩ : ∃ z, z = (headSpec (.code y_M_waits prog_13_method_50_code 3 (some .int) :: zd_ww) { frames := 3, cells := 0, slots := 0, locals := 65 }).room := ⟨_, rfl⟩
  rw [← hR]
  obtain ⟨QQ, hQ⟩ : ∃ z, z = MQ below (zs_Qi 1 D cA ad A q) args s 0 0 A := ⟨_, rfl⟩
  rw [← hQ]
  have hR1 : 3 ≤ RR.frames := by rw [hR]; exact Nat.le_refl _
  have hR2 : 65 ≤ RR.locals := by rw [hR]; exact Nat.le_refl _
  generalize s.heap = H at hw ⊢
  generalize ([] : List Loc) = locs at hw ⊢
  have K30 : ∀ (t0 : Int32) (σ : zs_S) (H : Heap) (locs : List Loc) (ls : Array Slot), zf_M_waits_30 F t0 σ = some q → zs_I 1 D cA ad A s σ H locs → lv_has ls 3 [] → W p l e RR s m args below meth c H locs 0 0 QQ (F0 m 30 ls [.int t0]) := by
    intro  t0 σ H locs ls hf hw hl
    unfold zf_M_waits_30 at hf
    exact zr_iret G hw hr hlocks hf hQ d_M_waits_30
  unfold zf_M_waits at hf
  refine lv_aload_n hx hb d_M_waits_0 rfl (lv_at hl 0 rfl) ?_
  refine lv_iload_n hx hb d_M_waits_1 rfl (lv_at hl 1 rfl) ?_
  refine lv_iload_n hx hb d_M_waits_2 rfl (lv_at hl 2 rfl) ?_
  obtain ⟨r2, σ1, hc3, hf⟩ := zq_cs hf
  refine zr_ci hw (zr_runV (rest := []) (ci := 8) (o := 1) G hw [.int x1, .int x2] (zc_M_isThread hJ hc3) (cwV 2 hts (zs_gV zm_757 zm_758 zm_759 zm_551 zm_756) rfl rfl rfl (by decide +kernel) ⟨Nat.le_trans (by decide) hR1, Nat.le_trans (by decide) hR2⟩) rfl rfl rfl hl.1 (Nat.le_of_ble_eq_true rfl) d_M_waits_3 ⟨Nat.zero_le _, Nat.zero_le _⟩) (fun H locs hw => ?_)
  refine lv_if_eq hx hb d_M_waits_6 (tgt := 28) rfl (fun hc => ?_) (fun hc => ?_)
  · have hf := (if_pos hc).symm.trans hf
    refine lv_bipush (v := (-2)) hx hb d_M_waits_28 (by decide) ?_
    exact K30 ((-2)) σ1 H locs ls hf hw (lv_sub hl [] rfl)
  · have hf := (if_neg hc).symm.trans hf
    refine lv_aload_n hx hb d_M_waits_9 rfl (lv_at hl 0 rfl) ?_
    refine zr_get (ci := 8) G hw 1 17 zi_8 rfl rfl rfl (by decide) zm_627 (fun _ h => h) (v := .ref (ad 58)) rfl d_M_waits_10 ?_
    refine lv_bipush (v := 34) hx hb d_M_waits_13 (by decide) ?_
    refine lv_iload_n hx hb d_M_waits_15 rfl (lv_at hl 1 rfl) ?_
    refine lv_imul hx hb d_M_waits_16 ?_
    refine lv_iload_n hx hb d_M_waits_17 rfl (lv_at hl 2 rfl) ?_
    obtain ⟨r5, σ4, hc6, hf⟩ := zq_cs hf
    refine zr_ci hw (zr_runS (rest := [.int (34 * x1), .ref (ad 58)]) G hw [.int x2] (zc_M_each hJ hc6) (va_cwS 1 hts (zs_gS zm_623 zm_624 zm_551 zm_622) rfl rfl rfl (by decide +kernel) ⟨Nat.le_trans (by decide) hR1, Nat.le_trans (by decide) hR2⟩) rfl hl.1 (Nat.le_of_ble_eq_true rfl) d_M_waits_18 ⟨Nat.zero_le _, Nat.zero_le _⟩) (fun H locs hw => ?_)
    refine lv_iadd hx hb d_M_waits_21 ?_
    refine lv_iconst (v := 4) hx hb d_M_waits_22 (by decide) ?_
    refine lv_iadd hx hb d_M_waits_23 ?_
    obtain ⟨hi7, hf⟩ := zq_gs hf
    refine zr_iald G hw 58 rfl rfl hi7 d_M_waits_24 ?_
    refine lv_goto hx hb d_M_waits_25 (tgt := 30) rfl ?_
    exact K30 (zs_i σ4 58 (((34 * x1) + r5) + 4).toNatClampNeg) σ4 H locs ls hf hw (lv_sub hl [] rfl)
/-! ScheduleCheckModel.next -/
def y_M_next : MethodName := ⟨"ScheduleCheckModel","next","(II)I"⟩
theorem d_M_next_0 : decode prog_13_method_51_code 0 = .ok (.aload_n 0, 1) := by decide +kernel
theorem d_M_next_1 : decode prog_13_method_51_code 1 = .ok (.iload_n 1, 1) := by decide +kernel
theorem d_M_next_2 : decode prog_13_method_51_code 2 = .ok (.invokevirtual 366, 3) := by decide +kernel
theorem d_M_next_5 : decode prog_13_method_51_code 5 = .ok (.ifCond .eq 44, 3) := by decide +kernel
theorem d_M_next_8 : decode prog_13_method_51_code 8 = .ok (.iload_n 2, 1) := by decide +kernel
theorem d_M_next_9 : decode prog_13_method_51_code 9 = .ok (.iconst 0, 1) := by decide +kernel
theorem d_M_next_10 : decode prog_13_method_51_code 10 = .ok (.aload_n 0, 1) := by decide +kernel
theorem d_M_next_11 : decode prog_13_method_51_code 11 = .ok (.getfield 39, 3) := by decide +kernel
theorem d_M_next_14 : decode prog_13_method_51_code 14 = .ok (.iload_n 1, 1) := by decide +kernel
theorem d_M_next_15 : decode prog_13_method_51_code 15 = .ok (.iconst 1, 1) := by decide +kernel
theorem d_M_next_16 : decode prog_13_method_51_code 16 = .ok (.iadd, 1) := by decide +kernel
theorem d_M_next_17 : decode prog_13_method_51_code 17 = .ok (.iaload, 1) := by decide +kernel
theorem d_M_next_18 : decode prog_13_method_51_code 18 = .ok (.aload_n 0, 1) := by decide +kernel
theorem d_M_next_19 : decode prog_13_method_51_code 19 = .ok (.getfield 39, 3) := by decide +kernel
theorem d_M_next_22 : decode prog_13_method_51_code 22 = .ok (.iload_n 1, 1) := by decide +kernel
theorem d_M_next_23 : decode prog_13_method_51_code 23 = .ok (.iaload, 1) := by decide +kernel
theorem d_M_next_24 : decode prog_13_method_51_code 24 = .ok (.isub, 1) := by decide +kernel
theorem d_M_next_25 : decode prog_13_method_51_code 25 = .ok (.iconst 1, 1) := by decide +kernel
theorem d_M_next_26 : decode prog_13_method_51_code 26 = .ok (.isub, 1) := by decide +kernel
theorem d_M_next_27 : decode prog_13_method_51_code 27 = .ok (.invokestatic 62, 3) := by decide +kernel
theorem d_M_next_30 : decode prog_13_method_51_code 30 = .ok (.ifCond .eq 19, 3) := by decide +kernel
theorem d_M_next_33 : decode prog_13_method_51_code 33 = .ok (.aload_n 0, 1) := by decide +kernel
theorem d_M_next_34 : decode prog_13_method_51_code 34 = .ok (.getfield 42, 3) := by decide +kernel
theorem d_M_next_37 : decode prog_13_method_51_code 37 = .ok (.aload_n 0, 1) := by decide +kernel
theorem d_M_next_38 : decode prog_13_method_51_code 38 = .ok (.getfield 39, 3) := by decide +kernel
theorem d_M_next_41 : decode prog_13_method_51_code 41 = .ok (.iload_n 1, 1) := by decide +kernel
theorem d_M_next_42 : decode prog_13_method_51_code 42 = .ok (.iaload, 1) := by decide +kernel
theorem d_M_next_43 : decode prog_13_method_51_code 43 = .ok (.iload_n 2, 1) := by decide +kernel
theorem d_M_next_44 : decode prog_13_method_51_code 44 = .ok (.iadd, 1) := by decide +kernel
theorem d_M_next_45 : decode prog_13_method_51_code 45 = .ok (.iaload, 1) := by decide +kernel
theorem d_M_next_46 : decode prog_13_method_51_code 46 = .ok (.goto 5, 3) := by decide +kernel
theorem d_M_next_49 : decode prog_13_method_51_code 49 = .ok (.bipush (-2), 2) := by decide +kernel
theorem d_M_next_51 : decode prog_13_method_51_code 51 = .ok (.ireturn, 1) := by decide +kernel
def zf_M_next_51 (F : Nat)  (t0 : Int32) (σ : zs_S) : Option (Int32 × zs_S) :=
  some (t0, σ)
def zf_M_next_49 (F : Nat)   (σ : zs_S) : Option (Int32 × zs_S) :=
  zf_M_next_51 F ((-2)) σ
def zf_M_next (F : Nat) (x1 : Int32) (x2 : Int32) (σ : zs_S) : Option (Int32 × zs_S) :=
  zq_c (zf_M_isIn F x1 σ) fun r2 σ1 =>
  if r2 = 0 then (
    zf_M_next_49 F σ1
  ) else (
    zq_g (zq_b (x1 + 1) 802) <|
    zq_g (zq_b x1 802) <|
    zq_c (zf_M_in F x2 0 (((zs_i σ1 62 (x1 + 1).toNatClampNeg) - (zs_i σ1 62 (x1).toNatClampNeg)) - 1) σ1) fun r7 σ6 =>
    if r7 = 0 then (
      zf_M_next_49 F σ6
    ) else (
      zq_g (zq_b x1 802) <|
      zq_g (zq_b ((zs_i σ6 62 (x1).toNatClampNeg) + x2) 12800) <|
      zf_M_next_51 F (zs_i σ6 63 ((zs_i σ6 62 (x1).toNatClampNeg) + x2).toNatClampNeg) σ6
    )
  )
set_option maxHeartbeats 4000000 in
set_option maxRecDepth 100000 in
theorem zc_M_next {l : Launch} {D : va_G} {cA : Nat → ClassId} {ad : Nat → Nat} {A : Nat → Prop} {F : Nat} {x1 : Int32} {x2 : Int32} {σ : zs_S} {q : Int32 × zs_S} (hJ : zs_J ad) (hf : zf_M_next F x1 x2 σ = some q) : Met l y_M_next (.code y_M_next prog_13_method_51_code 3 (some .int) :: zd_ww) { frames := 2, cells := 0, slots := 0, locals := 43 } (va_Pc [.ref (ad 1), .int x1, .int x2] (zs_U 1 D cA ad A σ)) (zs_Qi 1 D cA ad A q) 0 0 A := by
  refine Met.ofW (cc := prog_13_method_51_code) (maxL := 3) (ret := (some .int)) (by decide) rfl ?_
  intro p e s m args below meth c s₁ B hml hv
  obtain ⟨hargs, hP, hK, hD, hZ⟩ := hv
  have G : zs_G 1 p s m args c prog_13_method_51_code 3 "ScheduleCheckModel" D cA ad A := ⟨⟨B.exec, B.bytes, hml, findClass_of_methodNamed B.named, fun w h => atoms_spec B.pre w (List.mem_cons_of_mem _ h)⟩, hK, hJ, hZ⟩
  have hw : zs_I 1 D cA ad A s σ s.heap [] := ⟨hP, hD, va_S.rf⟩
  have hx := G.1.1
  have hb := G.1.2.1
  have hown := G.1.2.2.2.1
  have hts := G.1.2.2.2.2
  have hr := B.returns
  have hlocks := B.notSynchronized
  have he : entryFrame m args 3 = F0 m 0 ((lg_sl [.ref (ad 1), .int x1, .int x2] ++ List.replicate (3 - (lg_sl [.ref (ad 1), .int x1, .int x2]).length) Slot.unset).toArray) [] := by rw [hargs]; exact lg_entry_eq m _ 3
  have hl := lv_entry [.ref (ad 1), .int x1, .int x2] (n := 3) (Nat.le_of_ble_eq_true rfl)
  rw [he]
  generalize (lg_sl [.ref (ad 1), .int x1, .int x2] ++ List.replicate (3 - (lg_sl [.ref (ad 1), .int x1, .int x2]).length) Slot.unset).toArray = ls at hl
  have hl : lv_has ls 3 [(0, .ref (ad 1)), (1, .int x1), (2, .int x2)] := hl
  obtain ⟨RR, hR⟩ : ∃ z, z = (headSpec (.code y_M_next prog_13_method_51_code 3 (some .int) :: zd_ww) { frames := 2, cells := 0, slots := 0, locals := 43 }).room := ⟨_, rfl⟩
  rw [← hR]
  obtain ⟨QQ, hQ⟩ : ∃ z, z = MQ below (zs_Qi 1 D cA ad A q) args s 0 0 A := ⟨_, rfl⟩
  rw [← hQ]
  have hR1 : 2 ≤ RR.frames := by rw [hR]; exact Nat.le_refl _
  have hR2 : 43 ≤ RR.locals := by rw [hR]; exact Nat.le_refl _
  generalize s.heap = H at hw ⊢
  generalize ([] : List Loc) = locs at hw ⊢
  have K51 : ∀ (t0 : Int32) (σ : zs_S) (H : Heap) (locs : List Loc) (ls : Array Slot), zf_M_next_51 F t0 σ = some q → zs_I 1 D cA ad A s σ H locs → lv_has ls 3 [] → W p l e RR s m args below meth c H locs 0 0 QQ (F0 m 51 ls [.int t0]) := by
    intro  t0 σ H locs ls hf hw hl
    unfold zf_M_next_51 at hf
    exact zr_iret G hw hr hlocks hf hQ d_M_next_51
  have K49 : ∀ (σ : zs_S) (H : Heap) (locs : List Loc) (ls : Array Slot), zf_M_next_49 F σ = some q → zs_I 1 D cA ad A s σ H locs → lv_has ls 3 [] → W p l e RR s m args below meth c H locs 0 0 QQ (F0 m 49 ls []) := by
    intro   σ H locs ls hf hw hl
    unfold zf_M_next_49 at hf
    refine lv_bipush (v := (-2)) hx hb d_M_next_49 (by decide) ?_
    exact K51 ((-2)) σ H locs ls hf hw (lv_sub hl [] rfl)
  unfold zf_M_next at hf
  refine lv_aload_n hx hb d_M_next_0 rfl (lv_at hl 0 rfl) ?_
  refine lv_iload_n hx hb d_M_next_1 rfl (lv_at hl 1 rfl) ?_
  obtain ⟨r2, σ1, hc3, hf⟩ := zq_cs hf
  refine zr_ci hw (zr_runV (rest := []) (ci := 8) (o := 1) G hw [.int x1] (zc_M_isIn hJ hc3) (cwV 1 hts (zs_gV zm_753 zm_754 zm_755 zm_551 zm_752) rfl rfl rfl (by decide +kernel) ⟨Nat.le_trans (by decide) hR1, Nat.le_trans (by decide) hR2⟩) rfl rfl rfl hl.1 (Nat.le_of_ble_eq_true rfl) d_M_next_2 ⟨Nat.zero_le _, Nat.zero_le _⟩) (fun H locs hw => ?_)
  refine lv_if_eq hx hb d_M_next_5 (tgt := 49) rfl (fun hc => ?_) (fun hc => ?_)
  · have hf := (if_pos hc).symm.trans hf
    exact K49 σ1 H locs ls hf hw (lv_sub hl [] rfl)
  · have hf := (if_neg hc).symm.trans hf
    refine lv_iload_n hx hb d_M_next_8 rfl (lv_at hl 2 rfl) ?_
    refine lv_iconst (v := 0) hx hb d_M_next_9 (by decide) ?_
    refine lv_aload_n hx hb d_M_next_10 rfl (lv_at hl 0 rfl) ?_
    refine zr_get (ci := 8) G hw 1 21 zi_8 rfl rfl rfl (by decide) zm_743 (fun _ h => h) (v := .ref (ad 62)) rfl d_M_next_11 ?_
    refine lv_iload_n hx hb d_M_next_14 rfl (lv_at hl 1 rfl) ?_
    refine lv_iconst (v := 1) hx hb d_M_next_15 (by decide) ?_
    refine lv_iadd hx hb d_M_next_16 ?_
    obtain ⟨hi4, hf⟩ := zq_gs hf
    refine zr_iald G hw 62 rfl rfl hi4 d_M_next_17 ?_
    refine lv_aload_n hx hb d_M_next_18 rfl (lv_at hl 0 rfl) ?_
    refine zr_get (ci := 8) G hw 1 21 zi_8 rfl rfl rfl (by decide) zm_743 (fun _ h => h) (v := .ref (ad 62)) rfl d_M_next_19 ?_
    refine lv_iload_n hx hb d_M_next_22 rfl (lv_at hl 1 rfl) ?_
    obtain ⟨hi5, hf⟩ := zq_gs hf
    refine zr_iald G hw 62 rfl rfl hi5 d_M_next_23 ?_
    refine lv_isub hx hb d_M_next_24 ?_
    refine lv_iconst (v := 1) hx hb d_M_next_25 (by decide) ?_
    refine lv_isub hx hb d_M_next_26 ?_
    obtain ⟨r7, σ6, hc8, hf⟩ := zq_cs hf
    refine zr_ci hw (zr_runS (rest := []) G hw [.int x2, .int 0, .int (((zs_i σ1 62 (x1 + 1).toNatClampNeg) - (zs_i σ1 62 (x1).toNatClampNeg)) - 1)] (zc_M_in hJ hc8) (va_cwS 3 hts (zs_gS zm_614 zm_615 zm_551 zm_613) rfl rfl rfl (by decide +kernel) ⟨Nat.le_trans (by decide) hR1, Nat.le_trans (by decide) hR2⟩) rfl hl.1 (Nat.le_of_ble_eq_true rfl) d_M_next_27 ⟨Nat.zero_le _, Nat.zero_le _⟩) (fun H locs hw => ?_)
    refine lv_if_eq hx hb d_M_next_30 (tgt := 49) rfl (fun hc => ?_) (fun hc => ?_)
    · have hf := (if_pos hc).symm.trans hf
      exact K49 σ6 H locs ls hf hw (lv_sub hl [] rfl)
    · have hf := (if_neg hc).symm.trans hf
      refine lv_aload_n hx hb d_M_next_33 rfl (lv_at hl 0 rfl) ?_
      refine zr_get (ci := 8) G hw 1 22 zi_8 rfl rfl rfl (by decide) zm_640 (fun _ h => h) (v := .ref (ad 63)) rfl d_M_next_34 ?_
      refine lv_aload_n hx hb d_M_next_37 rfl (lv_at hl 0 rfl) ?_
      refine zr_get (ci := 8) G hw 1 21 zi_8 rfl rfl rfl (by decide) zm_743 (fun _ h => h) (v := .ref (ad 62)) rfl d_M_next_38 ?_
      refine lv_iload_n hx hb d_M_next_41 rfl (lv_at hl 1 rfl) ?_
      obtain ⟨hi9, hf⟩ := zq_gs hf
      refine zr_iald G hw 62 rfl rfl hi9 d_M_next_42 ?_
      refine lv_iload_n hx hb d_M_next_43 rfl (lv_at hl 2 rfl) ?_
      refine lv_iadd hx hb d_M_next_44 ?_
      obtain ⟨hi10, hf⟩ := zq_gs hf
      refine zr_iald G hw 63 rfl rfl hi10 d_M_next_45 ?_
      refine lv_goto hx hb d_M_next_46 (tgt := 51) rfl ?_
      exact K51 (zs_i σ6 63 ((zs_i σ6 62 (x1).toNatClampNeg) + x2).toNatClampNeg) σ6 H locs ls hf hw (lv_sub hl [] rfl)
/-! ScheduleCheckModel.outcome -/
def y_M_outcome : MethodName := ⟨"ScheduleCheckModel","outcome","(II)I"⟩
theorem d_M_outcome_0 : decode prog_13_method_52_code 0 = .ok (.aload_n 0, 1) := by decide +kernel
theorem d_M_outcome_1 : decode prog_13_method_52_code 1 = .ok (.getfield 344, 3) := by decide +kernel
theorem d_M_outcome_4 : decode prog_13_method_52_code 4 = .ok (.ifCond .eq 32, 3) := by decide +kernel
theorem d_M_outcome_7 : decode prog_13_method_52_code 7 = .ok (.iload_n 1, 1) := by decide +kernel
theorem d_M_outcome_8 : decode prog_13_method_52_code 8 = .ok (.iconst 0, 1) := by decide +kernel
theorem d_M_outcome_9 : decode prog_13_method_52_code 9 = .ok (.aload_n 0, 1) := by decide +kernel
theorem d_M_outcome_10 : decode prog_13_method_52_code 10 = .ok (.getfield 16, 3) := by decide +kernel
theorem d_M_outcome_13 : decode prog_13_method_52_code 13 = .ok (.getfield 152, 3) := by decide +kernel
theorem d_M_outcome_16 : decode prog_13_method_52_code 16 = .ok (.getfield 156, 3) := by decide +kernel
theorem d_M_outcome_19 : decode prog_13_method_52_code 19 = .ok (.iconst 1, 1) := by decide +kernel
theorem d_M_outcome_20 : decode prog_13_method_52_code 20 = .ok (.isub, 1) := by decide +kernel
theorem d_M_outcome_21 : decode prog_13_method_52_code 21 = .ok (.invokestatic 62, 3) := by decide +kernel
theorem d_M_outcome_24 : decode prog_13_method_52_code 24 = .ok (.ifCond .eq 12, 3) := by decide +kernel
theorem d_M_outcome_27 : decode prog_13_method_52_code 27 = .ok (.iload_n 2, 1) := by decide +kernel
theorem d_M_outcome_28 : decode prog_13_method_52_code 28 = .ok (.iconst 0, 1) := by decide +kernel
theorem d_M_outcome_29 : decode prog_13_method_52_code 29 = .ok (.iconst 2, 1) := by decide +kernel
theorem d_M_outcome_30 : decode prog_13_method_52_code 30 = .ok (.invokestatic 62, 3) := by decide +kernel
theorem d_M_outcome_33 : decode prog_13_method_52_code 33 = .ok (.ifCond .ne 7, 3) := by decide +kernel
theorem d_M_outcome_36 : decode prog_13_method_52_code 36 = .ok (.sipush 1000, 3) := by decide +kernel
theorem d_M_outcome_39 : decode prog_13_method_52_code 39 = .ok (.ireturn, 1) := by decide +kernel
theorem d_M_outcome_40 : decode prog_13_method_52_code 40 = .ok (.aload_n 0, 1) := by decide +kernel
theorem d_M_outcome_41 : decode prog_13_method_52_code 41 = .ok (.getfield 54, 3) := by decide +kernel
theorem d_M_outcome_44 : decode prog_13_method_52_code 44 = .ok (.iconst 0, 1) := by decide +kernel
theorem d_M_outcome_45 : decode prog_13_method_52_code 45 = .ok (.invokestatic 372, 3) := by decide +kernel
theorem d_M_outcome_48 : decode prog_13_method_52_code 48 = .ok (.sipush 1000, 3) := by decide +kernel
theorem d_M_outcome_51 : decode prog_13_method_52_code 51 = .ok (.istore_n 3, 1) := by decide +kernel
theorem d_M_outcome_52 : decode prog_13_method_52_code 52 = .ok (.sipush (-1000), 3) := by decide +kernel
theorem d_M_outcome_55 : decode prog_13_method_52_code 55 = .ok (.istore 4, 2) := by decide +kernel
theorem d_M_outcome_57 : decode prog_13_method_52_code 57 = .ok (.iconst 0, 1) := by decide +kernel
theorem d_M_outcome_58 : decode prog_13_method_52_code 58 = .ok (.istore 5, 2) := by decide +kernel
theorem d_M_outcome_60 : decode prog_13_method_52_code 60 = .ok (.iconst 0, 1) := by decide +kernel
theorem d_M_outcome_61 : decode prog_13_method_52_code 61 = .ok (.istore 6, 2) := by decide +kernel
theorem d_M_outcome_63 : decode prog_13_method_52_code 63 = .ok (.iload 6, 2) := by decide +kernel
theorem d_M_outcome_65 : decode prog_13_method_52_code 65 = .ok (.aload_n 0, 1) := by decide +kernel
theorem d_M_outcome_66 : decode prog_13_method_52_code 66 = .ok (.getfield 304, 3) := by decide +kernel
theorem d_M_outcome_69 : decode prog_13_method_52_code 69 = .ok (.if_icmp .ge 74, 3) := by decide +kernel
theorem d_M_outcome_72 : decode prog_13_method_52_code 72 = .ok (.aload_n 0, 1) := by decide +kernel
theorem d_M_outcome_73 : decode prog_13_method_52_code 73 = .ok (.iload 6, 2) := by decide +kernel
theorem d_M_outcome_75 : decode prog_13_method_52_code 75 = .ok (.invokevirtual 363, 3) := by decide +kernel
theorem d_M_outcome_78 : decode prog_13_method_52_code 78 = .ok (.ifCond .eq 6, 3) := by decide +kernel
theorem d_M_outcome_81 : decode prog_13_method_52_code 81 = .ok (.goto 56, 3) := by decide +kernel
theorem d_M_outcome_84 : decode prog_13_method_52_code 84 = .ok (.aload_n 0, 1) := by decide +kernel
theorem d_M_outcome_85 : decode prog_13_method_52_code 85 = .ok (.getfield 45, 3) := by decide +kernel
theorem d_M_outcome_88 : decode prog_13_method_52_code 88 = .ok (.iload_n 1, 1) := by decide +kernel
theorem d_M_outcome_89 : decode prog_13_method_52_code 89 = .ok (.iaload, 1) := by decide +kernel
theorem d_M_outcome_90 : decode prog_13_method_52_code 90 = .ok (.istore 7, 2) := by decide +kernel
theorem d_M_outcome_92 : decode prog_13_method_52_code 92 = .ok (.iload_n 3, 1) := by decide +kernel
theorem d_M_outcome_93 : decode prog_13_method_52_code 93 = .ok (.iload 7, 2) := by decide +kernel
theorem d_M_outcome_95 : decode prog_13_method_52_code 95 = .ok (.invokestatic 88, 3) := by decide +kernel
theorem d_M_outcome_98 : decode prog_13_method_52_code 98 = .ok (.istore_n 3, 1) := by decide +kernel
theorem d_M_outcome_99 : decode prog_13_method_52_code 99 = .ok (.iload 4, 2) := by decide +kernel
theorem d_M_outcome_101 : decode prog_13_method_52_code 101 = .ok (.iload 7, 2) := by decide +kernel
theorem d_M_outcome_103 : decode prog_13_method_52_code 103 = .ok (.invokestatic 375, 3) := by decide +kernel
theorem d_M_outcome_106 : decode prog_13_method_52_code 106 = .ok (.istore 4, 2) := by decide +kernel
theorem d_M_outcome_108 : decode prog_13_method_52_code 108 = .ok (.aload_n 0, 1) := by decide +kernel
theorem d_M_outcome_109 : decode prog_13_method_52_code 109 = .ok (.getfield 54, 3) := by decide +kernel
theorem d_M_outcome_112 : decode prog_13_method_52_code 112 = .ok (.iload 7, 2) := by decide +kernel
theorem d_M_outcome_114 : decode prog_13_method_52_code 114 = .ok (.sipush 128, 3) := by decide +kernel
theorem d_M_outcome_117 : decode prog_13_method_52_code 117 = .ok (.iadd, 1) := by decide +kernel
theorem d_M_outcome_118 : decode prog_13_method_52_code 118 = .ok (.baload, 1) := by decide +kernel
theorem d_M_outcome_119 : decode prog_13_method_52_code 119 = .ok (.ifCond .ne 6, 3) := by decide +kernel
theorem d_M_outcome_122 : decode prog_13_method_52_code 122 = .ok (.iinc 5 1, 3) := by decide +kernel
theorem d_M_outcome_125 : decode prog_13_method_52_code 125 = .ok (.aload_n 0, 1) := by decide +kernel
theorem d_M_outcome_126 : decode prog_13_method_52_code 126 = .ok (.getfield 54, 3) := by decide +kernel
theorem d_M_outcome_129 : decode prog_13_method_52_code 129 = .ok (.iload 7, 2) := by decide +kernel
theorem d_M_outcome_131 : decode prog_13_method_52_code 131 = .ok (.sipush 128, 3) := by decide +kernel
theorem d_M_outcome_134 : decode prog_13_method_52_code 134 = .ok (.iadd, 1) := by decide +kernel
theorem d_M_outcome_135 : decode prog_13_method_52_code 135 = .ok (.iconst 1, 1) := by decide +kernel
theorem d_M_outcome_136 : decode prog_13_method_52_code 136 = .ok (.bastore, 1) := by decide +kernel
theorem d_M_outcome_137 : decode prog_13_method_52_code 137 = .ok (.iinc 6 1, 3) := by decide +kernel
theorem d_M_outcome_140 : decode prog_13_method_52_code 140 = .ok (.goto (-77), 3) := by decide +kernel
theorem d_M_outcome_143 : decode prog_13_method_52_code 143 = .ok (.iload 5, 2) := by decide +kernel
theorem d_M_outcome_145 : decode prog_13_method_52_code 145 = .ok (.ifCond .ne 9, 3) := by decide +kernel
theorem d_M_outcome_148 : decode prog_13_method_52_code 148 = .ok (.sipush 1000, 3) := by decide +kernel
theorem d_M_outcome_151 : decode prog_13_method_52_code 151 = .ok (.goto 23, 3) := by decide +kernel
theorem d_M_outcome_154 : decode prog_13_method_52_code 154 = .ok (.iload_n 2, 1) := by decide +kernel
theorem d_M_outcome_155 : decode prog_13_method_52_code 155 = .ok (.ifCond .ne 7, 3) := by decide +kernel
theorem d_M_outcome_158 : decode prog_13_method_52_code 158 = .ok (.iload_n 3, 1) := by decide +kernel
theorem d_M_outcome_159 : decode prog_13_method_52_code 159 = .ok (.goto 15, 3) := by decide +kernel
theorem d_M_outcome_162 : decode prog_13_method_52_code 162 = .ok (.iload_n 2, 1) := by decide +kernel
theorem d_M_outcome_163 : decode prog_13_method_52_code 163 = .ok (.iconst 1, 1) := by decide +kernel
theorem d_M_outcome_164 : decode prog_13_method_52_code 164 = .ok (.if_icmp .ne 8, 3) := by decide +kernel
theorem d_M_outcome_167 : decode prog_13_method_52_code 167 = .ok (.iload 4, 2) := by decide +kernel
theorem d_M_outcome_169 : decode prog_13_method_52_code 169 = .ok (.goto 5, 3) := by decide +kernel
theorem d_M_outcome_172 : decode prog_13_method_52_code 172 = .ok (.iload 5, 2) := by decide +kernel
theorem d_M_outcome_174 : decode prog_13_method_52_code 174 = .ok (.ireturn, 1) := by decide +kernel
def zf_M_outcome_174 (F : Nat)  (t0 : Int32) (σ : zs_S) : Option (Int32 × zs_S) :=
  some (t0, σ)
def zf_M_outcome_137 (F : Nat) (k63 : Int32 → Int32 → Int32 → Int32 → Int32 → Int32 → zs_S → Option (Int32 × zs_S)) (x1 : Int32) (x2 : Int32) (x3 : Int32) (x4 : Int32) (x5 : Int32) (x6 : Int32) (σ : zs_S) : Option (Int32 × zs_S) :=
  zq_v (x6 + 1) fun v25 =>
  k63 x1 x2 x3 x4 x5 v25 σ
def zf_M_outcome_125 (F : Nat) (k63 : Int32 → Int32 → Int32 → Int32 → Int32 → Int32 → zs_S → Option (Int32 × zs_S)) (x1 : Int32) (x2 : Int32) (x3 : Int32) (x4 : Int32) (x5 : Int32) (x6 : Int32) (x7 : Int32) (σ : zs_S) : Option (Int32 × zs_S) :=
  zq_g (zq_b (x7 + 128) 256) <|
  zq_v (zs_wi σ 67 ((x7 + 128).toNatClampNeg) (vp_nar .boolean 1)) fun σ24 =>
  zf_M_outcome_137 F k63 x1 x2 x3 x4 x5 x6 σ24
def zf_M_outcome_63 (F : Nat)  : Nat → Int32 → Int32 → Int32 → Int32 → Int32 → Int32 → zs_S → Option (Int32 × zs_S)
  | 0, _, _, _, _, _, _, _ => none
  | n + 1, x1, x2, x3, x4, x5, x6, σ =>
    if (zs_i σ 1 23) ≤ x6 then (
      if x5 = 0 then (
        zf_M_outcome_174 F 1000 σ
      ) else (
        if x2 = 0 then (
          zf_M_outcome_174 F x3 σ
        ) else (
          if x2 = 1 then (
            zf_M_outcome_174 F x4 σ
          ) else (
            zf_M_outcome_174 F x5 σ
          )
        )
      )
    ) else (
      zq_c (zf_M_sortOf F x6 σ) fun r15 σ14 =>
      if r15 = 0 then (
        zq_g (zq_b x1 34) <|
        zq_v (zs_i σ14 64 (x1).toNatClampNeg) fun v18 =>
        zq_v (if v18 < x3 then v18 else x3) fun v19 =>
        zq_v (if x4 < v18 then v18 else x4) fun v20 =>
        zq_g (zq_b (v18 + 128) 256) <|
        if (zs_i σ14 67 (v18 + 128).toNatClampNeg) = 0 then (
          zq_v (x5 + 1) fun v22 =>
          zf_M_outcome_125 F (zf_M_outcome_63 F n) x1 x2 v19 v20 v22 x6 v18 σ14
        ) else (
          zf_M_outcome_125 F (zf_M_outcome_63 F n) x1 x2 v19 v20 x5 x6 v18 σ14
        )
      ) else (
        zf_M_outcome_137 F (zf_M_outcome_63 F n) x1 x2 x3 x4 x5 x6 σ14
      )
    )
def zf_M_outcome_36 (F : Nat)   (σ : zs_S) : Option (Int32 × zs_S) :=
  some (1000, σ)
def zf_M_outcome (F : Nat) (x1 : Int32) (x2 : Int32) (σ : zs_S) : Option (Int32 × zs_S) :=
  if (zs_i σ 1 4) = 0 then (
    zf_M_outcome_36 F σ
  ) else (
    zq_q (zs_r σ 1 2) fun q1 =>
    zq_g (zq_k 1 q1 19) <|
    zq_q (zd_rf 1 q1 0) fun q3 =>
    zq_g (zq_k 1 q3 20) <|
    zq_c (zf_M_in F x1 0 ((zs_i σ q3 2) - 1) σ) fun r6 σ5 =>
    if r6 = 0 then (
      zf_M_outcome_36 F σ5
    ) else (
      zq_c (zf_M_in F x2 0 2 σ5) fun r9 σ8 =>
      if r9 = 0 then (
        zf_M_outcome_36 F σ8
      ) else (
        zq_d (zf_Arrays_fillZ1 F 67 0 σ8) fun σ11 =>
        zf_M_outcome_63 F F x1 x2 1000 ((-1000)) 0 0 σ11
      )
    )
  )
set_option maxHeartbeats 4000000 in
set_option maxRecDepth 100000 in
theorem zc_M_outcome {l : Launch} {D : va_G} {cA : Nat → ClassId} {ad : Nat → Nat} {A : Nat → Prop} {F : Nat} {x1 : Int32} {x2 : Int32} {σ : zs_S} {q : Int32 × zs_S} (hJ : zs_J ad) (hf : zf_M_outcome F x1 x2 σ = some q) : Met l y_M_outcome (.code y_M_outcome prog_13_method_52_code 8 (some .int) :: zd_ww) { frames := 3, cells := 0, slots := 0, locals := 105 } (va_Pc [.ref (ad 1), .int x1, .int x2] (zs_U 1 D cA ad A σ)) (zs_Qi 1 D cA ad A q) 0 0 A := by
  refine Met.ofW (cc := prog_13_method_52_code) (maxL := 8) (ret := (some .int)) (by decide) rfl ?_
  intro p e s m args below meth c s₁ B hml hv
  obtain ⟨hargs, hP, hK, hD, hZ⟩ := hv
  have G : zs_G 1 p s m args c prog_13_method_52_code 8 "ScheduleCheckModel" D cA ad A := ⟨⟨B.exec, B.bytes, hml, findClass_of_methodNamed B.named, fun w h => atoms_spec B.pre w (List.mem_cons_of_mem _ h)⟩, hK, hJ, hZ⟩
  have hw : zs_I 1 D cA ad A s σ s.heap [] := ⟨hP, hD, va_S.rf⟩
  have hx := G.1.1
  have hb := G.1.2.1
  have hown := G.1.2.2.2.1
  have hts := G.1.2.2.2.2
  have hr := B.returns
  have hlocks := B.notSynchronized
  have he : entryFrame m args 8 = F0 m 0 ((lg_sl [.ref (ad 1), .int x1, .int x2] ++ List.replicate (8 - (lg_sl [.ref (ad 1), .int x1, .int x2]).length) Slot.unset).toArray) [] := by rw [hargs]; exact lg_entry_eq m _ 8
  have hl := lv_entry [.ref (ad 1), .int x1, .int x2] (n := 8) (Nat.le_of_ble_eq_true rfl)
  rw [he]
  generalize (lg_sl [.ref (ad 1), .int x1, .int x2] ++ List.replicate (8 - (lg_sl [.ref (ad 1), .int x1, .int x2]).length) Slot.unset).toArray = ls at hl
  have hl : lv_has ls 8 [(0, .ref (ad 1)), (1, .int x1), (2, .int x2)] := hl
  obtain ⟨RR, hR⟩ : ∃ z, z = (headSpec (.code y_M_outcome prog_13_method_52_code 8 (some .int) :: zd_ww) { frames := 3, cells := 0, slots := 0, locals := 105 }).room := ⟨_, rfl⟩
  rw [← hR]
  obtain ⟨QQ, hQ⟩ : ∃ z, z = MQ below (zs_Qi 1 D cA ad A q) args s 0 0 A := ⟨_, rfl⟩
  rw [← hQ]
  have hR1 : 3 ≤ RR.frames := by rw [hR]; exact Nat.le_refl _
  have hR2 : 105 ≤ RR.locals := by rw [hR]; exact Nat.le_refl _
  generalize s.heap = H at hw ⊢
  generalize ([] : List Loc) = locs at hw ⊢
  have K174 : ∀ (t0 : Int32) (σ : zs_S) (H : Heap) (locs : List Loc) (ls : Array Slot), zf_M_outcome_174 F t0 σ = some q → zs_I 1 D cA ad A s σ H locs → lv_has ls 8 [] → W p l e RR s m args below meth c H locs 0 0 QQ (F0 m 174 ls [.int t0]) := by
    intro  t0 σ H locs ls hf hw hl
    unfold zf_M_outcome_174 at hf
    exact zr_iret G hw hr hlocks hf hQ d_M_outcome_174
  have K137 : ∀ (k63 : Int32 → Int32 → Int32 → Int32 → Int32 → Int32 → zs_S → Option (Int32 × zs_S)) (hk63 : ∀ (x1 : Int32) (x2 : Int32) (x3 : Int32) (x4 : Int32) (x5 : Int32) (x6 : Int32) (σ : zs_S) (H : Heap) (locs : List Loc) (ls : Array Slot), k63 x1 x2 x3 x4 x5 x6 σ = some q → zs_I 1 D cA ad A s σ H locs → lv_has ls 8 [(0, .ref (ad 1)), (1, .int x1), (2, .int x2), (3, .int x3), (4, .int x4), (5, .int x5), (6, .int x6)] → W p l e RR s m args below meth c H locs 0 0 QQ (F0 m 63 ls [])) (x1 : Int32) (x2 : Int32) (x3 : Int32) (x4 : Int32) (x5 : Int32) (x6 : Int32) (σ : zs_S) (H : Heap) (locs : List Loc) (ls : Array Slot), zf_M_outcome_137 F k63 x1 x2 x3 x4 x5 x6 σ = some q → zs_I 1 D cA ad A s σ H locs → lv_has ls 8 [(0, .ref (ad 1)), (1, .int x1), (2, .int x2), (3, .int x3), (4, .int x4), (5, .int x5), (6, .int x6)] → W p l e RR s m args below meth c H locs 0 0 QQ (F0 m 137 ls []) := by
    intro k63 hk63 x1 x2 x3 x4 x5 x6 σ H locs ls hf hw hl
    unfold zf_M_outcome_137 at hf
    obtain ⟨v25, e_v25, hf⟩ := zq_ss hf
    refine lv_iinc (v := v25) hx hb d_M_outcome_137 hl (k := 6) rfl (zq_inc (k := 1) (by decide) e_v25) (by decide) rfl (fun ls hl => ?_)
    have hl : lv_has ls 8 [(6, .int v25), (0, .ref (ad 1)), (1, .int x1), (2, .int x2), (3, .int x3), (4, .int x4), (5, .int x5)] := hl
    refine lv_goto hx hb d_M_outcome_140 (tgt := 63) rfl ?_
    exact hk63 x1 x2 x3 x4 x5 v25 σ H locs ls hf hw (lv_sub hl [1, 2, 3, 4, 5, 6, 0] rfl)
  have K125 : ∀ (k63 : Int32 → Int32 → Int32 → Int32 → Int32 → Int32 → zs_S → Option (Int32 × zs_S)) (hk63 : ∀ (x1 : Int32) (x2 : Int32) (x3 : Int32) (x4 : Int32) (x5 : Int32) (x6 : Int32) (σ : zs_S) (H : Heap) (locs : List Loc) (ls : Array Slot), k63 x1 x2 x3 x4 x5 x6 σ = some q → zs_I 1 D cA ad A s σ H locs → lv_has ls 8 [(0, .ref (ad 1)), (1, .int x1), (2, .int x2), (3, .int x3), (4, .int x4), (5, .int x5), (6, .int x6)] → W p l e RR s m args below meth c H locs 0 0 QQ (F0 m 63 ls [])) (x1 : Int32) (x2 : Int32) (x3 : Int32) (x4 : Int32) (x5 : Int32) (x6 : Int32) (x7 : Int32) (σ : zs_S) (H : Heap) (locs : List Loc) (ls : Array Slot), zf_M_outcome_125 F k63 x1 x2 x3 x4 x5 x6 x7 σ = some q → zs_I 1 D cA ad A s σ H locs → lv_has ls 8 [(0, .ref (ad 1)), (1, .int x1), (2, .int x2), (3, .int x3), (4, .int x4), (5, .int x5), (6, .int x6), (7, .int x7)] → W p l e RR s m args below meth c H locs 0 0 QQ (F0 m 125 ls []) := by
    intro k63 hk63 x1 x2 x3 x4 x5 x6 x7 σ H locs ls hf hw hl
    unfold zf_M_outcome_125 at hf
    refine lv_aload_n hx hb d_M_outcome_125 rfl (lv_at hl 0 rfl) ?_
    refine zr_get (ci := 8) G hw 1 30 zi_8 rfl rfl rfl (by decide) zm_760 (fun _ h => h) (v := .ref (ad 67)) rfl d_M_outcome_126 ?_
    refine lv_iload hx hb d_M_outcome_129 (lv_at hl 7 rfl) ?_
    refine lv_sipush (v := 128) hx hb d_M_outcome_131 (by decide) ?_
    refine lv_iadd hx hb d_M_outcome_134 ?_
    refine lv_iconst (v := 1) hx hb d_M_outcome_135 (by decide) ?_
    obtain ⟨hi23, hf⟩ := zq_gs hf
    obtain ⟨σ24, e_σ24, hf⟩ := zq_ss hf
    refine zr_zast G hw 67 rfl rfl  hi23  d_M_outcome_136 (fun H locs hw => ?_)
    rw [← e_σ24] at hw
    exact K137 k63 hk63 x1 x2 x3 x4 x5 x6 σ24 H locs ls hf hw (lv_sub hl [0, 1, 2, 3, 4, 5, 6] rfl)
  have K63 : ∀ (n : Nat) (x1 : Int32) (x2 : Int32) (x3 : Int32) (x4 : Int32) (x5 : Int32) (x6 : Int32) (σ : zs_S) (H : Heap) (locs : List Loc) (ls : Array Slot), zf_M_outcome_63 F n x1 x2 x3 x4 x5 x6 σ = some q → zs_I 1 D cA ad A s σ H locs → lv_has ls 8 [(0, .ref (ad 1)), (1, .int x1), (2, .int x2), (3, .int x3), (4, .int x4), (5, .int x5), (6, .int x6)] → W p l e RR s m args below meth c H locs 0 0 QQ (F0 m 63 ls []) := by
    intro  n
    induction n with
    | zero => intro x1 x2 x3 x4 x5 x6 σ H locs ls hf hw hl; exact nomatch (show (none : Option (Int32 × zs_S)) = some q from hf)
    | succ n ih =>
      intro x1 x2 x3 x4 x5 x6 σ H locs ls hf hw hl
      rw [zf_M_outcome_63] at hf
      refine lv_iload hx hb d_M_outcome_63 (lv_at hl 6 rfl) ?_
      refine lv_aload_n hx hb d_M_outcome_65 rfl (lv_at hl 0 rfl) ?_
      refine zr_get (ci := 8) G hw 1 23 zi_8 rfl rfl rfl (by decide) zm_629 (fun _ h => h) (v := .int (zs_i σ 1 23)) rfl d_M_outcome_66 ?_
      refine lv_icmp_ge hx hb d_M_outcome_69 (tgt := 143) rfl (fun hc => ?_) (fun hc => ?_)
      · have hf := (if_pos hc).symm.trans hf
        refine lv_iload hx hb d_M_outcome_143 (lv_at hl 5 rfl) ?_
        refine lv_if_ne hx hb d_M_outcome_145 (tgt := 154) rfl (fun hc => ?_) (fun hc => ?_)
        · have hf := (if_neg hc).symm.trans hf
          refine lv_iload_n hx hb d_M_outcome_154 rfl (lv_at hl 2 rfl) ?_
          refine lv_if_ne hx hb d_M_outcome_155 (tgt := 162) rfl (fun hc => ?_) (fun hc => ?_)
          · have hf := (if_neg hc).symm.trans hf
            refine lv_iload_n hx hb d_M_outcome_162 rfl (lv_at hl 2 rfl) ?_
            refine lv_iconst (v := 1) hx hb d_M_outcome_163 (by decide) ?_
            refine lv_icmp_ne hx hb d_M_outcome_164 (tgt := 172) rfl (fun hc => ?_) (fun hc => ?_)
            · have hf := (if_neg hc).symm.trans hf
              refine lv_iload hx hb d_M_outcome_172 (lv_at hl 5 rfl) ?_
              exact K174 x5 σ H locs ls hf hw (lv_sub hl [] rfl)
            · have hf := (if_pos hc).symm.trans hf
              refine lv_iload hx hb d_M_outcome_167 (lv_at hl 4 rfl) ?_
              refine lv_goto hx hb d_M_outcome_169 (tgt := 174) rfl ?_
              exact K174 x4 σ H locs ls hf hw (lv_sub hl [] rfl)
          · have hf := (if_pos hc).symm.trans hf
            refine lv_iload_n hx hb d_M_outcome_158 rfl (lv_at hl 3 rfl) ?_
            refine lv_goto hx hb d_M_outcome_159 (tgt := 174) rfl ?_
            exact K174 x3 σ H locs ls hf hw (lv_sub hl [] rfl)
        · have hf := (if_pos hc).symm.trans hf
          refine lv_sipush (v := 1000) hx hb d_M_outcome_148 (by decide) ?_
          refine lv_goto hx hb d_M_outcome_151 (tgt := 174) rfl ?_
          exact K174 1000 σ H locs ls hf hw (lv_sub hl [] rfl)
      · have hf := (if_neg hc).symm.trans hf
        refine lv_aload_n hx hb d_M_outcome_72 rfl (lv_at hl 0 rfl) ?_
        refine lv_iload hx hb d_M_outcome_73 (lv_at hl 6 rfl) ?_
        obtain ⟨r15, σ14, hc16, hf⟩ := zq_cs hf
        refine zr_ci hw (zr_runV (rest := []) (ci := 8) (o := 1) G hw [.int x6] (zc_M_sortOf hJ hc16) (cwV 1 hts (zs_gV zm_749 zm_750 zm_751 zm_551 zm_748) rfl rfl rfl (by decide +kernel) ⟨Nat.le_trans (by decide) hR1, Nat.le_trans (by decide) hR2⟩) rfl rfl rfl hl.1 (Nat.le_of_ble_eq_true rfl) d_M_outcome_75 ⟨Nat.zero_le _, Nat.zero_le _⟩) (fun H locs hw => ?_)
        refine lv_if_eq hx hb d_M_outcome_78 (tgt := 84) rfl (fun hc => ?_) (fun hc => ?_)
        · have hf := (if_pos hc).symm.trans hf
          refine lv_aload_n hx hb d_M_outcome_84 rfl (lv_at hl 0 rfl) ?_
          refine zr_get (ci := 8) G hw 1 25 zi_8 rfl rfl rfl (by decide) zm_621 (fun _ h => h) (v := .ref (ad 64)) rfl d_M_outcome_85 ?_
          refine lv_iload_n hx hb d_M_outcome_88 rfl (lv_at hl 1 rfl) ?_
          obtain ⟨hi17, hf⟩ := zq_gs hf
          refine zr_iald G hw 64 rfl rfl hi17 d_M_outcome_89 ?_
          refine lv_topi (fun v18 e_v18 => ?_)
          have hf := zq_vs e_v18 hf
          refine lv_istore hx hb d_M_outcome_90 hl (by decide) rfl (fun ls hl => ?_)
          have hl : lv_has ls 8 [(7, .int v18), (0, .ref (ad 1)), (1, .int x1), (2, .int x2), (3, .int x3), (4, .int x4), (5, .int x5), (6, .int x6)] := hl
          refine lv_iload_n hx hb d_M_outcome_92 rfl (lv_at hl 4 rfl) ?_
          refine lv_iload hx hb d_M_outcome_93 (lv_at hl 0 rfl) ?_
          refine va_mmin hx hb (G.1.2.2.1.trans hl.1.symm) hown (hts _ zm_557) (hts _ zm_79) (hts _ zm_80) (hts _ zm_77) (Nat.le_trans (by decide) hR1) (Nat.le_trans (Nat.le_of_ble_eq_true rfl) hR2) (Nat.zero_le _) (Nat.zero_le _) d_M_outcome_95 ?_
          refine lv_topi (fun v19 e_v19 => ?_)
          have hf := zq_vs e_v19 hf
          refine lv_istore_n hx hb d_M_outcome_98 rfl hl (by decide) rfl (fun ls hl => ?_)
          have hl : lv_has ls 8 [(3, .int v19), (7, .int v18), (0, .ref (ad 1)), (1, .int x1), (2, .int x2), (4, .int x4), (5, .int x5), (6, .int x6)] := hl
          refine lv_iload hx hb d_M_outcome_99 (lv_at hl 5 rfl) ?_
          refine lv_iload hx hb d_M_outcome_101 (lv_at hl 1 rfl) ?_
          refine va_mmax hx hb (G.1.2.2.1.trans hl.1.symm) hown (hts _ zm_765) (hts _ zm_766) (hts _ zm_80) (hts _ zm_764) (Nat.le_trans (by decide) hR1) (Nat.le_trans (Nat.le_of_ble_eq_true rfl) hR2) (Nat.zero_le _) (Nat.zero_le _) d_M_outcome_103 ?_
          refine lv_topi (fun v20 e_v20 => ?_)
          have hf := zq_vs e_v20 hf
          refine lv_istore hx hb d_M_outcome_106 hl (by decide) rfl (fun ls hl => ?_)
          have hl : lv_has ls 8 [(4, .int v20), (3, .int v19), (7, .int v18), (0, .ref (ad 1)), (1, .int x1), (2, .int x2), (5, .int x5), (6, .int x6)] := hl
          refine lv_aload_n hx hb d_M_outcome_108 rfl (lv_at hl 3 rfl) ?_
          refine zr_get (ci := 8) G hw 1 30 zi_8 rfl rfl rfl (by decide) zm_760 (fun _ h => h) (v := .ref (ad 67)) rfl d_M_outcome_109 ?_
          refine lv_iload hx hb d_M_outcome_112 (lv_at hl 2 rfl) ?_
          refine lv_sipush (v := 128) hx hb d_M_outcome_114 (by decide) ?_
          refine lv_iadd hx hb d_M_outcome_117 ?_
          obtain ⟨hi21, hf⟩ := zq_gs hf
          refine zr_zald G hw 67 rfl rfl hi21 d_M_outcome_118 ?_
          refine lv_if_ne hx hb d_M_outcome_119 (tgt := 125) rfl (fun hc => ?_) (fun hc => ?_)
          · have hf := (if_neg hc).symm.trans hf
            exact K125 (zf_M_outcome_63 F n) ih x1 x2 v19 v20 x5 x6 v18 σ14 H locs ls hf hw (lv_sub hl [3, 4, 5, 1, 0, 6, 7, 2] rfl)
          · have hf := (if_pos hc).symm.trans hf
            obtain ⟨v22, e_v22, hf⟩ := zq_ss hf
            refine lv_iinc (v := v22) hx hb d_M_outcome_122 hl (k := 6) rfl (zq_inc (k := 1) (by decide) e_v22) (by decide) rfl (fun ls hl => ?_)
            have hl : lv_has ls 8 [(5, .int v22), (4, .int v20), (3, .int v19), (7, .int v18), (0, .ref (ad 1)), (1, .int x1), (2, .int x2), (6, .int x6)] := hl
            exact K125 (zf_M_outcome_63 F n) ih x1 x2 v19 v20 v22 x6 v18 σ14 H locs ls hf hw (lv_sub hl [4, 5, 6, 2, 1, 0, 7, 3] rfl)
        · have hf := (if_neg hc).symm.trans hf
          refine lv_goto hx hb d_M_outcome_81 (tgt := 137) rfl ?_
          exact K137 (zf_M_outcome_63 F n) ih x1 x2 x3 x4 x5 x6 σ14 H locs ls hf hw (lv_sub hl [0, 1, 2, 3, 4, 5, 6] rfl)
  have K36 : ∀ (σ : zs_S) (H : Heap) (locs : List Loc) (ls : Array Slot), zf_M_outcome_36 F σ = some q → zs_I 1 D cA ad A s σ H locs → lv_has ls 8 [] → W p l e RR s m args below meth c H locs 0 0 QQ (F0 m 36 ls []) := by
    intro   σ H locs ls hf hw hl
    unfold zf_M_outcome_36 at hf
    refine lv_sipush (v := 1000) hx hb d_M_outcome_36 (by decide) ?_
    exact zr_iret G hw hr hlocks hf hQ d_M_outcome_39
  unfold zf_M_outcome at hf
  refine lv_aload_n hx hb d_M_outcome_0 rfl (lv_at hl 0 rfl) ?_
  refine zr_get (ci := 8) G hw 1 4 zi_8 rfl rfl rfl (by decide) zm_741 (fun _ h => h) (v := .int (zs_i σ 1 4)) rfl d_M_outcome_1 ?_
  refine lv_if_eq hx hb d_M_outcome_4 (tgt := 36) rfl (fun hc => ?_) (fun hc => ?_)
  · have hf := (if_pos hc).symm.trans hf
    exact K36 σ H locs ls hf hw (lv_sub hl [] rfl)
  · have hf := (if_neg hc).symm.trans hf
    refine lv_iload_n hx hb d_M_outcome_7 rfl (lv_at hl 1 rfl) ?_
    refine lv_iconst (v := 0) hx hb d_M_outcome_8 (by decide) ?_
    refine lv_aload_n hx hb d_M_outcome_9 rfl (lv_at hl 0 rfl) ?_
    obtain ⟨q1, e_q1, h_q1, hf⟩ := zq_qs hf
    refine zr_get (ci := 8) G hw 1 2 zi_8 rfl rfl rfl (by decide) zm_616 (fun _ h => h) (v := .ref (ad q1)) (zs_fr rfl e_q1 h_q1) d_M_outcome_10 ?_
    obtain ⟨hs2, hf⟩ := zq_gs hf
    have hs2 := zq_ks hs2
    obtain ⟨q3, e_q3, h_q3, hf⟩ := zq_qs hf
    refine zr_get (ci := 9) G hw q1 0 zi_9 hs2 rfl rfl (by decide) zm_591 (fun _ h => h) (v := .ref (ad q3)) (zs_fs rfl e_q3 h_q3) d_M_outcome_13 ?_
    obtain ⟨hs4, hf⟩ := zq_gs hf
    have hs4 := zq_ks hs4
    refine zr_get (ci := 10) G hw q3 2 zi_10 hs4 rfl rfl (by decide) zm_596 (fun _ h => h) (v := .int (zs_i σ q3 2)) rfl d_M_outcome_16 ?_
    refine lv_iconst (v := 1) hx hb d_M_outcome_19 (by decide) ?_
    refine lv_isub hx hb d_M_outcome_20 ?_
    obtain ⟨r6, σ5, hc7, hf⟩ := zq_cs hf
    refine zr_ci hw (zr_runS (rest := []) G hw [.int x1, .int 0, .int ((zs_i σ q3 2) - 1)] (zc_M_in hJ hc7) (va_cwS 3 hts (zs_gS zm_614 zm_615 zm_551 zm_613) rfl rfl rfl (by decide +kernel) ⟨Nat.le_trans (by decide) hR1, Nat.le_trans (by decide) hR2⟩) rfl hl.1 (Nat.le_of_ble_eq_true rfl) d_M_outcome_21 ⟨Nat.zero_le _, Nat.zero_le _⟩) (fun H locs hw => ?_)
    refine lv_if_eq hx hb d_M_outcome_24 (tgt := 36) rfl (fun hc => ?_) (fun hc => ?_)
    · have hf := (if_pos hc).symm.trans hf
      exact K36 σ5 H locs ls hf hw (lv_sub hl [] rfl)
    · have hf := (if_neg hc).symm.trans hf
      refine lv_iload_n hx hb d_M_outcome_27 rfl (lv_at hl 2 rfl) ?_
      refine lv_iconst (v := 0) hx hb d_M_outcome_28 (by decide) ?_
      refine lv_iconst (v := 2) hx hb d_M_outcome_29 (by decide) ?_
      obtain ⟨r9, σ8, hc10, hf⟩ := zq_cs hf
      refine zr_ci hw (zr_runS (rest := []) G hw [.int x2, .int 0, .int 2] (zc_M_in hJ hc10) (va_cwS 3 hts (zs_gS zm_614 zm_615 zm_551 zm_613) rfl rfl rfl (by decide +kernel) ⟨Nat.le_trans (by decide) hR1, Nat.le_trans (by decide) hR2⟩) rfl hl.1 (Nat.le_of_ble_eq_true rfl) d_M_outcome_30 ⟨Nat.zero_le _, Nat.zero_le _⟩) (fun H locs hw => ?_)
      refine lv_if_ne hx hb d_M_outcome_33 (tgt := 40) rfl (fun hc => ?_) (fun hc => ?_)
      · have hf := (if_neg hc).symm.trans hf
        refine lv_aload_n hx hb d_M_outcome_40 rfl (lv_at hl 0 rfl) ?_
        refine zr_get (ci := 8) G hw 1 30 zi_8 rfl rfl rfl (by decide) zm_760 (fun _ h => h) (v := .ref (ad 67)) rfl d_M_outcome_41 ?_
        refine lv_iconst (v := 0) hx hb d_M_outcome_44 (by decide) ?_
        obtain ⟨σ11, hc13, hf⟩ := zq_ds hf
        refine zr_cv hw (zr_runS (rest := []) G hw [.ref (ad 67), .int 0] (zc_Arrays_fillZ1 hJ hc13) (va_cwS 2 hts (zs_gS zm_762 zm_763 zm_23 zm_761) rfl rfl rfl (by decide +kernel) ⟨Nat.le_trans (by decide) hR1, Nat.le_trans (by decide) hR2⟩) rfl hl.1 (Nat.le_of_ble_eq_true rfl) d_M_outcome_45 ⟨Nat.zero_le _, Nat.zero_le _⟩) (fun H locs hw => ?_)
        refine lv_sipush (v := 1000) hx hb d_M_outcome_48 (by decide) ?_
        refine lv_istore_n hx hb d_M_outcome_51 rfl hl (by decide) rfl (fun ls hl => ?_)
        have hl : lv_has ls 8 [(3, .int 1000), (0, .ref (ad 1)), (1, .int x1), (2, .int x2)] := hl
        refine lv_sipush (v := (-1000)) hx hb d_M_outcome_52 (by decide) ?_
        refine lv_istore hx hb d_M_outcome_55 hl (by decide) rfl (fun ls hl => ?_)
        have hl : lv_has ls 8 [(4, .int ((-1000))), (3, .int 1000), (0, .ref (ad 1)), (1, .int x1), (2, .int x2)] := hl
        refine lv_iconst (v := 0) hx hb d_M_outcome_57 (by decide) ?_
        refine lv_istore hx hb d_M_outcome_58 hl (by decide) rfl (fun ls hl => ?_)
        have hl : lv_has ls 8 [(5, .int 0), (4, .int ((-1000))), (3, .int 1000), (0, .ref (ad 1)), (1, .int x1), (2, .int x2)] := hl
        refine lv_iconst (v := 0) hx hb d_M_outcome_60 (by decide) ?_
        refine lv_istore hx hb d_M_outcome_61 hl (by decide) rfl (fun ls hl => ?_)
        have hl : lv_has ls 8 [(6, .int 0), (5, .int 0), (4, .int ((-1000))), (3, .int 1000), (0, .ref (ad 1)), (1, .int x1), (2, .int x2)] := hl
        exact K63 F x1 x2 1000 ((-1000)) 0 0 σ11 H locs ls hf hw (lv_sub hl [4, 5, 6, 3, 2, 1, 0] rfl)
      · have hf := (if_pos hc).symm.trans hf
        exact K36 σ8 H locs ls hf hw (lv_sub hl [] rfl)
/-! ScheduleCheckModel.has -/
def y_M_has : MethodName := ⟨"ScheduleCheckModel","has","(II)Z"⟩
theorem d_M_has_0 : decode prog_13_method_53_code 0 = .ok (.aload_n 0, 1) := by decide +kernel
theorem d_M_has_1 : decode prog_13_method_53_code 1 = .ok (.getfield 16, 3) := by decide +kernel
theorem d_M_has_4 : decode prog_13_method_53_code 4 = .ok (.getfield 232, 3) := by decide +kernel
theorem d_M_has_7 : decode prog_13_method_53_code 7 = .ok (.iload_n 1, 1) := by decide +kernel
theorem d_M_has_8 : decode prog_13_method_53_code 8 = .ok (.iaload, 1) := by decide +kernel
theorem d_M_has_9 : decode prog_13_method_53_code 9 = .ok (.istore_n 3, 1) := by decide +kernel
theorem d_M_has_10 : decode prog_13_method_53_code 10 = .ok (.iload_n 3, 1) := by decide +kernel
theorem d_M_has_11 : decode prog_13_method_53_code 11 = .ok (.ifCond .ne 18, 3) := by decide +kernel
theorem d_M_has_14 : decode prog_13_method_53_code 14 = .ok (.aload_n 0, 1) := by decide +kernel
theorem d_M_has_15 : decode prog_13_method_53_code 15 = .ok (.getfield 16, 3) := by decide +kernel
theorem d_M_has_18 : decode prog_13_method_53_code 18 = .ok (.getfield 244, 3) := by decide +kernel
theorem d_M_has_21 : decode prog_13_method_53_code 21 = .ok (.iload_n 1, 1) := by decide +kernel
theorem d_M_has_22 : decode prog_13_method_53_code 22 = .ok (.iaload, 1) := by decide +kernel
theorem d_M_has_23 : decode prog_13_method_53_code 23 = .ok (.iload_n 2, 1) := by decide +kernel
theorem d_M_has_24 : decode prog_13_method_53_code 24 = .ok (.if_icmp .ne 5, 3) := by decide +kernel
theorem d_M_has_27 : decode prog_13_method_53_code 27 = .ok (.iconst 1, 1) := by decide +kernel
theorem d_M_has_28 : decode prog_13_method_53_code 28 = .ok (.ireturn, 1) := by decide +kernel
theorem d_M_has_29 : decode prog_13_method_53_code 29 = .ok (.iload_n 3, 1) := by decide +kernel
theorem d_M_has_30 : decode prog_13_method_53_code 30 = .ok (.ifCond .eq 23, 3) := by decide +kernel
theorem d_M_has_33 : decode prog_13_method_53_code 33 = .ok (.iload_n 3, 1) := by decide +kernel
theorem d_M_has_34 : decode prog_13_method_53_code 34 = .ok (.bipush 6, 2) := by decide +kernel
theorem d_M_has_36 : decode prog_13_method_53_code 36 = .ok (.if_icmp .eq 17, 3) := by decide +kernel
theorem d_M_has_39 : decode prog_13_method_53_code 39 = .ok (.iload_n 3, 1) := by decide +kernel
theorem d_M_has_40 : decode prog_13_method_53_code 40 = .ok (.bipush 7, 2) := by decide +kernel
theorem d_M_has_42 : decode prog_13_method_53_code 42 = .ok (.if_icmp .eq 11, 3) := by decide +kernel
theorem d_M_has_45 : decode prog_13_method_53_code 45 = .ok (.iload_n 3, 1) := by decide +kernel
theorem d_M_has_46 : decode prog_13_method_53_code 46 = .ok (.bipush 8, 2) := by decide +kernel
theorem d_M_has_48 : decode prog_13_method_53_code 48 = .ok (.if_icmp .eq 5, 3) := by decide +kernel
theorem d_M_has_51 : decode prog_13_method_53_code 51 = .ok (.iconst 0, 1) := by decide +kernel
theorem d_M_has_52 : decode prog_13_method_53_code 52 = .ok (.ireturn, 1) := by decide +kernel
theorem d_M_has_53 : decode prog_13_method_53_code 53 = .ok (.aload_n 0, 1) := by decide +kernel
theorem d_M_has_54 : decode prog_13_method_53_code 54 = .ok (.getfield 16, 3) := by decide +kernel
theorem d_M_has_57 : decode prog_13_method_53_code 57 = .ok (.getfield 249, 3) := by decide +kernel
theorem d_M_has_60 : decode prog_13_method_53_code 60 = .ok (.iload_n 1, 1) := by decide +kernel
theorem d_M_has_61 : decode prog_13_method_53_code 61 = .ok (.iaload, 1) := by decide +kernel
theorem d_M_has_62 : decode prog_13_method_53_code 62 = .ok (.istore 4, 2) := by decide +kernel
theorem d_M_has_64 : decode prog_13_method_53_code 64 = .ok (.aload_n 0, 1) := by decide +kernel
theorem d_M_has_65 : decode prog_13_method_53_code 65 = .ok (.getfield 16, 3) := by decide +kernel
theorem d_M_has_68 : decode prog_13_method_53_code 68 = .ok (.getfield 247, 3) := by decide +kernel
theorem d_M_has_71 : decode prog_13_method_53_code 71 = .ok (.iload 4, 2) := by decide +kernel
theorem d_M_has_73 : decode prog_13_method_53_code 73 = .ok (.iaload, 1) := by decide +kernel
theorem d_M_has_74 : decode prog_13_method_53_code 74 = .ok (.bipush 16, 2) := by decide +kernel
theorem d_M_has_76 : decode prog_13_method_53_code 76 = .ok (.if_icmp .eq 55, 3) := by decide +kernel
theorem d_M_has_79 : decode prog_13_method_53_code 79 = .ok (.aload_n 0, 1) := by decide +kernel
theorem d_M_has_80 : decode prog_13_method_53_code 80 = .ok (.getfield 16, 3) := by decide +kernel
theorem d_M_has_83 : decode prog_13_method_53_code 83 = .ok (.getfield 247, 3) := by decide +kernel
theorem d_M_has_86 : decode prog_13_method_53_code 86 = .ok (.iload 4, 2) := by decide +kernel
theorem d_M_has_88 : decode prog_13_method_53_code 88 = .ok (.iaload, 1) := by decide +kernel
theorem d_M_has_89 : decode prog_13_method_53_code 89 = .ok (.istore 5, 2) := by decide +kernel
theorem d_M_has_91 : decode prog_13_method_53_code 91 = .ok (.iload 5, 2) := by decide +kernel
theorem d_M_has_93 : decode prog_13_method_53_code 93 = .ok (.iconst 2, 1) := by decide +kernel
theorem d_M_has_94 : decode prog_13_method_53_code 94 = .ok (.if_icmp .le 6, 3) := by decide +kernel
theorem d_M_has_97 : decode prog_13_method_53_code 97 = .ok (.goto 28, 3) := by decide +kernel
theorem d_M_has_100 : decode prog_13_method_53_code 100 = .ok (.iinc 4 1, 3) := by decide +kernel
theorem d_M_has_103 : decode prog_13_method_53_code 103 = .ok (.iload 5, 2) := by decide +kernel
theorem d_M_has_105 : decode prog_13_method_53_code 105 = .ok (.iconst 1, 1) := by decide +kernel
theorem d_M_has_106 : decode prog_13_method_53_code 106 = .ok (.if_icmp .ne 19, 3) := by decide +kernel
theorem d_M_has_109 : decode prog_13_method_53_code 109 = .ok (.aload_n 0, 1) := by decide +kernel
theorem d_M_has_110 : decode prog_13_method_53_code 110 = .ok (.getfield 16, 3) := by decide +kernel
theorem d_M_has_113 : decode prog_13_method_53_code 113 = .ok (.getfield 247, 3) := by decide +kernel
theorem d_M_has_116 : decode prog_13_method_53_code 116 = .ok (.iload 4, 2) := by decide +kernel
theorem d_M_has_118 : decode prog_13_method_53_code 118 = .ok (.iaload, 1) := by decide +kernel
theorem d_M_has_119 : decode prog_13_method_53_code 119 = .ok (.iload_n 2, 1) := by decide +kernel
theorem d_M_has_120 : decode prog_13_method_53_code 120 = .ok (.if_icmp .ne 5, 3) := by decide +kernel
theorem d_M_has_123 : decode prog_13_method_53_code 123 = .ok (.iconst 1, 1) := by decide +kernel
theorem d_M_has_124 : decode prog_13_method_53_code 124 = .ok (.ireturn, 1) := by decide +kernel
theorem d_M_has_125 : decode prog_13_method_53_code 125 = .ok (.iinc 4 1, 3) := by decide +kernel
theorem d_M_has_128 : decode prog_13_method_53_code 128 = .ok (.goto (-64), 3) := by decide +kernel
theorem d_M_has_131 : decode prog_13_method_53_code 131 = .ok (.iconst 0, 1) := by decide +kernel
theorem d_M_has_132 : decode prog_13_method_53_code 132 = .ok (.ireturn, 1) := by decide +kernel
def zf_M_has_125 (F : Nat) (k64 : Int32 → Int32 → zs_S → Option (Int32 × zs_S)) (x2 : Int32) (x4 : Int32) (σ : zs_S) : Option (Int32 × zs_S) :=
  zq_v (x4 + 1) fun v35 =>
  k64 x2 v35 σ
def zf_M_has_64 (F : Nat)  : Nat → Int32 → Int32 → zs_S → Option (Int32 × zs_S)
  | 0, _, _, _ => none
  | n + 1, x2, x4, σ =>
    zq_q (zs_r σ 1 2) fun q18 =>
    zq_g (zq_k 1 q18 19) <|
    zq_q (zd_rf 1 q18 11) fun q20 =>
    zq_g (zq_k 1 q20 0) <|
    zq_g (zq_b x4 (zd_sh 1 q20).2) <|
    if (zs_i σ q20 (x4).toNatClampNeg) = 16 then (
      some (0, σ)
    ) else (
      zq_q (zs_r σ 1 2) fun q23 =>
      zq_g (zq_k 1 q23 19) <|
      zq_q (zd_rf 1 q23 11) fun q25 =>
      zq_g (zq_k 1 q25 0) <|
      zq_g (zq_b x4 (zd_sh 1 q25).2) <|
      zq_v (zs_i σ q25 (x4).toNatClampNeg) fun v28 =>
      if v28 ≤ 2 then (
        zq_v (x4 + 1) fun v29 =>
        if v28 = 1 then (
          zq_q (zs_r σ 1 2) fun q30 =>
          zq_g (zq_k 1 q30 19) <|
          zq_q (zd_rf 1 q30 11) fun q32 =>
          zq_g (zq_k 1 q32 0) <|
          zq_g (zq_b v29 (zd_sh 1 q32).2) <|
          if (zs_i σ q32 (v29).toNatClampNeg) = x2 then (
            some (1, σ)
          ) else (
            zf_M_has_125 F (zf_M_has_64 F n) x2 v29 σ
          )
        ) else (
          zf_M_has_125 F (zf_M_has_64 F n) x2 v29 σ
        )
      ) else (
        zf_M_has_125 F (zf_M_has_64 F n) x2 x4 σ
      )
    )
def zf_M_has_53 (F : Nat)  (x1 : Int32) (x2 : Int32) (σ : zs_S) : Option (Int32 × zs_S) :=
  zq_q (zs_r σ 1 2) fun q12 =>
  zq_g (zq_k 1 q12 19) <|
  zq_q (zd_rf 1 q12 9) fun q14 =>
  zq_g (zq_k 1 q14 0) <|
  zq_g (zq_b x1 (zd_sh 1 q14).2) <|
  zq_v (zs_i σ q14 (x1).toNatClampNeg) fun v17 =>
  zf_M_has_64 F F x2 v17 σ
def zf_M_has_29 (F : Nat)  (x1 : Int32) (x2 : Int32) (x3 : Int32) (σ : zs_S) : Option (Int32 × zs_S) :=
  if x3 = 0 then (
    zf_M_has_53 F x1 x2 σ
  ) else (
    if x3 = 6 then (
      zf_M_has_53 F x1 x2 σ
    ) else (
      if x3 = 7 then (
        zf_M_has_53 F x1 x2 σ
      ) else (
        if x3 = 8 then (
          zf_M_has_53 F x1 x2 σ
        ) else (
          some (0, σ)
        )
      )
    )
  )
def zf_M_has (F : Nat) (x1 : Int32) (x2 : Int32) (σ : zs_S) : Option (Int32 × zs_S) :=
  zq_q (zs_r σ 1 2) fun q1 =>
  zq_g (zq_k 1 q1 19) <|
  zq_q (zd_rf 1 q1 7) fun q3 =>
  zq_g (zq_k 1 q3 0) <|
  zq_g (zq_b x1 (zd_sh 1 q3).2) <|
  zq_v (zs_i σ q3 (x1).toNatClampNeg) fun v6 =>
  if v6 = 0 then (
    zq_q (zs_r σ 1 2) fun q7 =>
    zq_g (zq_k 1 q7 19) <|
    zq_q (zd_rf 1 q7 8) fun q9 =>
    zq_g (zq_k 1 q9 0) <|
    zq_g (zq_b x1 (zd_sh 1 q9).2) <|
    if (zs_i σ q9 (x1).toNatClampNeg) = x2 then (
      some (1, σ)
    ) else (
      zf_M_has_29 F x1 x2 v6 σ
    )
  ) else (
    zf_M_has_29 F x1 x2 v6 σ
  )
set_option maxHeartbeats 4000000 in
set_option maxRecDepth 100000 in
theorem zc_M_has {l : Launch} {D : va_G} {cA : Nat → ClassId} {ad : Nat → Nat} {A : Nat → Prop} {F : Nat} {x1 : Int32} {x2 : Int32} {σ : zs_S} {q : Int32 × zs_S} (hJ : zs_J ad) (hf : zf_M_has F x1 x2 σ = some q) : Met l y_M_has (.code y_M_has prog_13_method_53_code 6 (some .boolean) :: zd_ww) { frames := 0, cells := 0, slots := 0, locals := 0 } (va_Pc [.ref (ad 1), .int x1, .int x2] (zs_U 1 D cA ad A σ)) (zs_Qi 1 D cA ad A q) 0 0 A := by
  refine Met.ofW (cc := prog_13_method_53_code) (maxL := 6) (ret := (some .boolean)) (by decide) rfl ?_
  intro p e s m args below meth c s₁ B hml hv
  obtain ⟨hargs, hP, hK, hD, hZ⟩ := hv
  have G : zs_G 1 p s m args c prog_13_method_53_code 6 "ScheduleCheckModel" D cA ad A := ⟨⟨B.exec, B.bytes, hml, findClass_of_methodNamed B.named, fun w h => atoms_spec B.pre w (List.mem_cons_of_mem _ h)⟩, hK, hJ, hZ⟩
  have hw : zs_I 1 D cA ad A s σ s.heap [] := ⟨hP, hD, va_S.rf⟩
  have hx := G.1.1
  have hb := G.1.2.1
  have hown := G.1.2.2.2.1
  have hts := G.1.2.2.2.2
  have hr := B.returns
  have hlocks := B.notSynchronized
  have he : entryFrame m args 6 = F0 m 0 ((lg_sl [.ref (ad 1), .int x1, .int x2] ++ List.replicate (6 - (lg_sl [.ref (ad 1), .int x1, .int x2]).length) Slot.unset).toArray) [] := by rw [hargs]; exact lg_entry_eq m _ 6
  have hl := lv_entry [.ref (ad 1), .int x1, .int x2] (n := 6) (Nat.le_of_ble_eq_true rfl)
  rw [he]
  generalize (lg_sl [.ref (ad 1), .int x1, .int x2] ++ List.replicate (6 - (lg_sl [.ref (ad 1), .int x1, .int x2]).length) Slot.unset).toArray = ls at hl
  have hl : lv_has ls 6 [(0, .ref (ad 1)), (1, .int x1), (2, .int x2)] := hl
  obtain ⟨RR, hR⟩ : ∃ z, z = (headSpec (.code y_M_has prog_13_method_53_code 6 (some .boolean) :: zd_ww) { frames := 0, cells := 0, slots := 0, locals := 0 }).room := ⟨_, rfl⟩
  rw [← hR]
  obtain ⟨QQ, hQ⟩ : ∃ z, z = MQ below (zs_Qi 1 D cA ad A q) args s 0 0 A := ⟨_, rfl⟩
  rw [← hQ]
  have hR1 : 0 ≤ RR.frames := by rw [hR]; exact Nat.le_refl _
  have hR2 : 0 ≤ RR.locals := by rw [hR]; exact Nat.le_refl _
  generalize s.heap = H at hw ⊢
  generalize ([] : List Loc) = locs at hw ⊢
  have K125 : ∀ (k64 : Int32 → Int32 → zs_S → Option (Int32 × zs_S)) (hk64 : ∀ (x2 : Int32) (x4 : Int32) (σ : zs_S) (H : Heap) (locs : List Loc) (ls : Array Slot), k64 x2 x4 σ = some q → zs_I 1 D cA ad A s σ H locs → lv_has ls 6 [(0, .ref (ad 1)), (2, .int x2), (4, .int x4)] → W p l e RR s m args below meth c H locs 0 0 QQ (F0 m 64 ls [])) (x2 : Int32) (x4 : Int32) (σ : zs_S) (H : Heap) (locs : List Loc) (ls : Array Slot), zf_M_has_125 F k64 x2 x4 σ = some q → zs_I 1 D cA ad A s σ H locs → lv_has ls 6 [(0, .ref (ad 1)), (2, .int x2), (4, .int x4)] → W p l e RR s m args below meth c H locs 0 0 QQ (F0 m 125 ls []) := by
    intro k64 hk64 x2 x4 σ H locs ls hf hw hl
    unfold zf_M_has_125 at hf
    obtain ⟨v35, e_v35, hf⟩ := zq_ss hf
    refine lv_iinc (v := v35) hx hb d_M_has_125 hl (k := 2) rfl (zq_inc (k := 1) (by decide) e_v35) (by decide) rfl (fun ls hl => ?_)
    have hl : lv_has ls 6 [(4, .int v35), (0, .ref (ad 1)), (2, .int x2)] := hl
    refine lv_goto hx hb d_M_has_128 (tgt := 64) rfl ?_
    exact hk64 x2 v35 σ H locs ls hf hw (lv_sub hl [1, 2, 0] rfl)
  have K64 : ∀ (n : Nat) (x2 : Int32) (x4 : Int32) (σ : zs_S) (H : Heap) (locs : List Loc) (ls : Array Slot), zf_M_has_64 F n x2 x4 σ = some q → zs_I 1 D cA ad A s σ H locs → lv_has ls 6 [(0, .ref (ad 1)), (2, .int x2), (4, .int x4)] → W p l e RR s m args below meth c H locs 0 0 QQ (F0 m 64 ls []) := by
    intro  n
    induction n with
    | zero => intro x2 x4 σ H locs ls hf hw hl; exact nomatch (show (none : Option (Int32 × zs_S)) = some q from hf)
    | succ n ih =>
      intro x2 x4 σ H locs ls hf hw hl
      rw [zf_M_has_64] at hf
      refine lv_aload_n hx hb d_M_has_64 rfl (lv_at hl 0 rfl) ?_
      obtain ⟨q18, e_q18, h_q18, hf⟩ := zq_qs hf
      refine zr_get (ci := 8) G hw 1 2 zi_8 rfl rfl rfl (by decide) zm_616 (fun _ h => h) (v := .ref (ad q18)) (zs_fr rfl e_q18 h_q18) d_M_has_65 ?_
      obtain ⟨hs19, hf⟩ := zq_gs hf
      have hs19 := zq_ks hs19
      obtain ⟨q20, e_q20, h_q20, hf⟩ := zq_qs hf
      refine zr_get (ci := 9) G hw q18 11 zi_9 hs19 rfl rfl (by decide) zm_584 (fun _ h => h) (v := .ref (ad q20)) (zs_fs rfl e_q20 h_q20) d_M_has_68 ?_
      refine lv_iload hx hb d_M_has_71 (lv_at hl 2 rfl) ?_
      obtain ⟨hs21, hf⟩ := zq_gs hf
      have hs21 := zq_ks hs21
      obtain ⟨hi22, hf⟩ := zq_gs hf
      refine zr_iald G hw q20 hs21 rfl hi22 d_M_has_73 ?_
      refine lv_bipush (v := 16) hx hb d_M_has_74 (by decide) ?_
      refine lv_icmp_eq hx hb d_M_has_76 (tgt := 131) rfl (fun hc => ?_) (fun hc => ?_)
      · have hf := (if_pos hc).symm.trans hf
        refine lv_iconst (v := 0) hx hb d_M_has_131 (by decide) ?_
        exact zr_zret G hw hr hlocks (by decide) hf hQ d_M_has_132
      · have hf := (if_neg hc).symm.trans hf
        refine lv_aload_n hx hb d_M_has_79 rfl (lv_at hl 0 rfl) ?_
        obtain ⟨q23, e_q23, h_q23, hf⟩ := zq_qs hf
        refine zr_get (ci := 8) G hw 1 2 zi_8 rfl rfl rfl (by decide) zm_616 (fun _ h => h) (v := .ref (ad q23)) (zs_fr rfl e_q23 h_q23) d_M_has_80 ?_
        obtain ⟨hs24, hf⟩ := zq_gs hf
        have hs24 := zq_ks hs24
        obtain ⟨q25, e_q25, h_q25, hf⟩ := zq_qs hf
        refine zr_get (ci := 9) G hw q23 11 zi_9 hs24 rfl rfl (by decide) zm_584 (fun _ h => h) (v := .ref (ad q25)) (zs_fs rfl e_q25 h_q25) d_M_has_83 ?_
        refine lv_iload hx hb d_M_has_86 (lv_at hl 2 rfl) ?_
        obtain ⟨hs26, hf⟩ := zq_gs hf
        have hs26 := zq_ks hs26
        obtain ⟨hi27, hf⟩ := zq_gs hf
        refine zr_iald G hw q25 hs26 rfl hi27 d_M_has_88 ?_
        refine lv_topi (fun v28 e_v28 => ?_)
        have hf := zq_vs e_v28 hf
        refine lv_istore hx hb d_M_has_89 hl (by decide) rfl (fun ls hl => ?_)
        have hl : lv_has ls 6 [(5, .int v28), (0, .ref (ad 1)), (2, .int x2), (4, .int x4)] := hl
        refine lv_iload hx hb d_M_has_91 (lv_at hl 0 rfl) ?_
        refine lv_iconst (v := 2) hx hb d_M_has_93 (by decide) ?_
        refine lv_icmp_le hx hb d_M_has_94 (tgt := 100) rfl (fun hc => ?_) (fun hc => ?_)
        · have hf := (if_pos hc).symm.trans hf
          obtain ⟨v29, e_v29, hf⟩ := zq_ss hf
          refine lv_iinc (v := v29) hx hb d_M_has_100 hl (k := 3) rfl (zq_inc (k := 1) (by decide) e_v29) (by decide) rfl (fun ls hl => ?_)
          have hl : lv_has ls 6 [(4, .int v29), (5, .int v28), (0, .ref (ad 1)), (2, .int x2)] := hl
          refine lv_iload hx hb d_M_has_103 (lv_at hl 1 rfl) ?_
          refine lv_iconst (v := 1) hx hb d_M_has_105 (by decide) ?_
          refine lv_icmp_ne hx hb d_M_has_106 (tgt := 125) rfl (fun hc => ?_) (fun hc => ?_)
          · have hf := (if_neg hc).symm.trans hf
            exact K125 (zf_M_has_64 F n) ih x2 v29 σ H locs ls hf hw (lv_sub hl [2, 3, 0] rfl)
          · have hf := (if_pos hc).symm.trans hf
            refine lv_aload_n hx hb d_M_has_109 rfl (lv_at hl 2 rfl) ?_
            obtain ⟨q30, e_q30, h_q30, hf⟩ := zq_qs hf
            refine zr_get (ci := 8) G hw 1 2 zi_8 rfl rfl rfl (by decide) zm_616 (fun _ h => h) (v := .ref (ad q30)) (zs_fr rfl e_q30 h_q30) d_M_has_110 ?_
            obtain ⟨hs31, hf⟩ := zq_gs hf
            have hs31 := zq_ks hs31
            obtain ⟨q32, e_q32, h_q32, hf⟩ := zq_qs hf
            refine zr_get (ci := 9) G hw q30 11 zi_9 hs31 rfl rfl (by decide) zm_584 (fun _ h => h) (v := .ref (ad q32)) (zs_fs rfl e_q32 h_q32) d_M_has_113 ?_
            refine lv_iload hx hb d_M_has_116 (lv_at hl 0 rfl) ?_
            obtain ⟨hs33, hf⟩ := zq_gs hf
            have hs33 := zq_ks hs33
            obtain ⟨hi34, hf⟩ := zq_gs hf
            refine zr_iald G hw q32 hs33 rfl hi34 d_M_has_118 ?_
            refine lv_iload_n hx hb d_M_has_119 rfl (lv_at hl 3 rfl) ?_
            refine lv_icmp_ne hx hb d_M_has_120 (tgt := 125) rfl (fun hc => ?_) (fun hc => ?_)
            · have hf := (if_neg hc).symm.trans hf
              exact K125 (zf_M_has_64 F n) ih x2 v29 σ H locs ls hf hw (lv_sub hl [2, 3, 0] rfl)
            · have hf := (if_pos hc).symm.trans hf
              refine lv_iconst (v := 1) hx hb d_M_has_123 (by decide) ?_
              exact zr_zret G hw hr hlocks (by decide) hf hQ d_M_has_124
        · have hf := (if_neg hc).symm.trans hf
          refine lv_goto hx hb d_M_has_97 (tgt := 125) rfl ?_
          exact K125 (zf_M_has_64 F n) ih x2 x4 σ H locs ls hf hw (lv_sub hl [1, 2, 3] rfl)
  have K53 : ∀ (x1 : Int32) (x2 : Int32) (σ : zs_S) (H : Heap) (locs : List Loc) (ls : Array Slot), zf_M_has_53 F x1 x2 σ = some q → zs_I 1 D cA ad A s σ H locs → lv_has ls 6 [(0, .ref (ad 1)), (1, .int x1), (2, .int x2)] → W p l e RR s m args below meth c H locs 0 0 QQ (F0 m 53 ls []) := by
    intro  x1 x2 σ H locs ls hf hw hl
    unfold zf_M_has_53 at hf
    refine lv_aload_n hx hb d_M_has_53 rfl (lv_at hl 0 rfl) ?_
    obtain ⟨q12, e_q12, h_q12, hf⟩ := zq_qs hf
    refine zr_get (ci := 8) G hw 1 2 zi_8 rfl rfl rfl (by decide) zm_616 (fun _ h => h) (v := .ref (ad q12)) (zs_fr rfl e_q12 h_q12) d_M_has_54 ?_
    obtain ⟨hs13, hf⟩ := zq_gs hf
    have hs13 := zq_ks hs13
    obtain ⟨q14, e_q14, h_q14, hf⟩ := zq_qs hf
    refine zr_get (ci := 9) G hw q12 9 zi_9 hs13 rfl rfl (by decide) zm_663 (fun _ h => h) (v := .ref (ad q14)) (zs_fs rfl e_q14 h_q14) d_M_has_57 ?_
    refine lv_iload_n hx hb d_M_has_60 rfl (lv_at hl 1 rfl) ?_
    obtain ⟨hs15, hf⟩ := zq_gs hf
    have hs15 := zq_ks hs15
    obtain ⟨hi16, hf⟩ := zq_gs hf
    refine zr_iald G hw q14 hs15 rfl hi16 d_M_has_61 ?_
    refine lv_topi (fun v17 e_v17 => ?_)
    have hf := zq_vs e_v17 hf
    refine lv_istore hx hb d_M_has_62 hl (by decide) rfl (fun ls hl => ?_)
    have hl : lv_has ls 6 [(4, .int v17), (0, .ref (ad 1)), (1, .int x1), (2, .int x2)] := hl
    exact K64 F x2 v17 σ H locs ls hf hw (lv_sub hl [1, 3, 0] rfl)
  have K29 : ∀ (x1 : Int32) (x2 : Int32) (x3 : Int32) (σ : zs_S) (H : Heap) (locs : List Loc) (ls : Array Slot), zf_M_has_29 F x1 x2 x3 σ = some q → zs_I 1 D cA ad A s σ H locs → lv_has ls 6 [(0, .ref (ad 1)), (1, .int x1), (2, .int x2), (3, .int x3)] → W p l e RR s m args below meth c H locs 0 0 QQ (F0 m 29 ls []) := by
    intro  x1 x2 x3 σ H locs ls hf hw hl
    unfold zf_M_has_29 at hf
    refine lv_iload_n hx hb d_M_has_29 rfl (lv_at hl 3 rfl) ?_
    refine lv_if_eq hx hb d_M_has_30 (tgt := 53) rfl (fun hc => ?_) (fun hc => ?_)
    · have hf := (if_pos hc).symm.trans hf
      exact K53 x1 x2 σ H locs ls hf hw (lv_sub hl [0, 1, 2] rfl)
    · have hf := (if_neg hc).symm.trans hf
      refine lv_iload_n hx hb d_M_has_33 rfl (lv_at hl 3 rfl) ?_
      refine lv_bipush (v := 6) hx hb d_M_has_34 (by decide) ?_
      refine lv_icmp_eq hx hb d_M_has_36 (tgt := 53) rfl (fun hc => ?_) (fun hc => ?_)
      · have hf := (if_pos hc).symm.trans hf
        exact K53 x1 x2 σ H locs ls hf hw (lv_sub hl [0, 1, 2] rfl)
      · have hf := (if_neg hc).symm.trans hf
        refine lv_iload_n hx hb d_M_has_39 rfl (lv_at hl 3 rfl) ?_
        refine lv_bipush (v := 7) hx hb d_M_has_40 (by decide) ?_
        refine lv_icmp_eq hx hb d_M_has_42 (tgt := 53) rfl (fun hc => ?_) (fun hc => ?_)
        · have hf := (if_pos hc).symm.trans hf
          exact K53 x1 x2 σ H locs ls hf hw (lv_sub hl [0, 1, 2] rfl)
        · have hf := (if_neg hc).symm.trans hf
          refine lv_iload_n hx hb d_M_has_45 rfl (lv_at hl 3 rfl) ?_
          refine lv_bipush (v := 8) hx hb d_M_has_46 (by decide) ?_
          refine lv_icmp_eq hx hb d_M_has_48 (tgt := 53) rfl (fun hc => ?_) (fun hc => ?_)
          · have hf := (if_pos hc).symm.trans hf
            exact K53 x1 x2 σ H locs ls hf hw (lv_sub hl [0, 1, 2] rfl)
          · have hf := (if_neg hc).symm.trans hf
            refine lv_iconst (v := 0) hx hb d_M_has_51 (by decide) ?_
            exact zr_zret G hw hr hlocks (by decide) hf hQ d_M_has_52
  unfold zf_M_has at hf
  refine lv_aload_n hx hb d_M_has_0 rfl (lv_at hl 0 rfl) ?_
  obtain ⟨q1, e_q1, h_q1, hf⟩ := zq_qs hf
  refine zr_get (ci := 8) G hw 1 2 zi_8 rfl rfl rfl (by decide) zm_616 (fun _ h => h) (v := .ref (ad q1)) (zs_fr rfl e_q1 h_q1) d_M_has_1 ?_
  obtain ⟨hs2, hf⟩ := zq_gs hf
  have hs2 := zq_ks hs2
  obtain ⟨q3, e_q3, h_q3, hf⟩ := zq_qs hf
  refine zr_get (ci := 9) G hw q1 7 zi_9 hs2 rfl rfl (by decide) zm_625 (fun _ h => h) (v := .ref (ad q3)) (zs_fs rfl e_q3 h_q3) d_M_has_4 ?_
  refine lv_iload_n hx hb d_M_has_7 rfl (lv_at hl 1 rfl) ?_
  obtain ⟨hs4, hf⟩ := zq_gs hf
  have hs4 := zq_ks hs4
  obtain ⟨hi5, hf⟩ := zq_gs hf
  refine zr_iald G hw q3 hs4 rfl hi5 d_M_has_8 ?_
  refine lv_topi (fun v6 e_v6 => ?_)
  have hf := zq_vs e_v6 hf
  refine lv_istore_n hx hb d_M_has_9 rfl hl (by decide) rfl (fun ls hl => ?_)
  have hl : lv_has ls 6 [(3, .int v6), (0, .ref (ad 1)), (1, .int x1), (2, .int x2)] := hl
  refine lv_iload_n hx hb d_M_has_10 rfl (lv_at hl 0 rfl) ?_
  refine lv_if_ne hx hb d_M_has_11 (tgt := 29) rfl (fun hc => ?_) (fun hc => ?_)
  · have hf := (if_neg hc).symm.trans hf
    exact K29 x1 x2 v6 σ H locs ls hf hw (lv_sub hl [1, 2, 3, 0] rfl)
  · have hf := (if_pos hc).symm.trans hf
    refine lv_aload_n hx hb d_M_has_14 rfl (lv_at hl 1 rfl) ?_
    obtain ⟨q7, e_q7, h_q7, hf⟩ := zq_qs hf
    refine zr_get (ci := 8) G hw 1 2 zi_8 rfl rfl rfl (by decide) zm_616 (fun _ h => h) (v := .ref (ad q7)) (zs_fr rfl e_q7 h_q7) d_M_has_15 ?_
    obtain ⟨hs8, hf⟩ := zq_gs hf
    have hs8 := zq_ks hs8
    obtain ⟨q9, e_q9, h_q9, hf⟩ := zq_qs hf
    refine zr_get (ci := 9) G hw q7 8 zi_9 hs8 rfl rfl (by decide) zm_626 (fun _ h => h) (v := .ref (ad q9)) (zs_fs rfl e_q9 h_q9) d_M_has_18 ?_
    refine lv_iload_n hx hb d_M_has_21 rfl (lv_at hl 2 rfl) ?_
    obtain ⟨hs10, hf⟩ := zq_gs hf
    have hs10 := zq_ks hs10
    obtain ⟨hi11, hf⟩ := zq_gs hf
    refine zr_iald G hw q9 hs10 rfl hi11 d_M_has_22 ?_
    refine lv_iload_n hx hb d_M_has_23 rfl (lv_at hl 3 rfl) ?_
    refine lv_icmp_ne hx hb d_M_has_24 (tgt := 29) rfl (fun hc => ?_) (fun hc => ?_)
    · have hf := (if_neg hc).symm.trans hf
      exact K29 x1 x2 v6 σ H locs ls hf hw (lv_sub hl [1, 2, 3, 0] rfl)
    · have hf := (if_pos hc).symm.trans hf
      refine lv_iconst (v := 1) hx hb d_M_has_27 (by decide) ?_
      exact zr_zret G hw hr hlocks (by decide) hf hQ d_M_has_28
/-! ScheduleCheckModel.race -/
def y_M_race : MethodName := ⟨"ScheduleCheckModel","race","(I)I"⟩
theorem d_M_race_0 : decode prog_13_method_54_code 0 = .ok (.aload_n 0, 1) := by decide +kernel
theorem d_M_race_1 : decode prog_13_method_54_code 1 = .ok (.getfield 344, 3) := by decide +kernel
theorem d_M_race_4 : decode prog_13_method_54_code 4 = .ok (.ifCond .eq 23, 3) := by decide +kernel
theorem d_M_race_7 : decode prog_13_method_54_code 7 = .ok (.iload_n 1, 1) := by decide +kernel
theorem d_M_race_8 : decode prog_13_method_54_code 8 = .ok (.iconst 0, 1) := by decide +kernel
theorem d_M_race_9 : decode prog_13_method_54_code 9 = .ok (.aload_n 0, 1) := by decide +kernel
theorem d_M_race_10 : decode prog_13_method_54_code 10 = .ok (.getfield 16, 3) := by decide +kernel
theorem d_M_race_13 : decode prog_13_method_54_code 13 = .ok (.getfield 152, 3) := by decide +kernel
theorem d_M_race_16 : decode prog_13_method_54_code 16 = .ok (.getfield 156, 3) := by decide +kernel
theorem d_M_race_19 : decode prog_13_method_54_code 19 = .ok (.iconst 1, 1) := by decide +kernel
theorem d_M_race_20 : decode prog_13_method_54_code 20 = .ok (.isub, 1) := by decide +kernel
theorem d_M_race_21 : decode prog_13_method_54_code 21 = .ok (.invokestatic 62, 3) := by decide +kernel
theorem d_M_race_24 : decode prog_13_method_54_code 24 = .ok (.ifCond .ne 6, 3) := by decide +kernel
theorem d_M_race_27 : decode prog_13_method_54_code 27 = .ok (.bipush (-2), 2) := by decide +kernel
theorem d_M_race_29 : decode prog_13_method_54_code 29 = .ok (.ireturn, 1) := by decide +kernel
theorem d_M_race_30 : decode prog_13_method_54_code 30 = .ok (.iconst 0, 1) := by decide +kernel
theorem d_M_race_31 : decode prog_13_method_54_code 31 = .ok (.istore_n 2, 1) := by decide +kernel
theorem d_M_race_32 : decode prog_13_method_54_code 32 = .ok (.iload_n 2, 1) := by decide +kernel
theorem d_M_race_33 : decode prog_13_method_54_code 33 = .ok (.aload_n 0, 1) := by decide +kernel
theorem d_M_race_34 : decode prog_13_method_54_code 34 = .ok (.getfield 304, 3) := by decide +kernel
theorem d_M_race_37 : decode prog_13_method_54_code 37 = .ok (.if_icmp .ge 137, 3) := by decide +kernel
theorem d_M_race_40 : decode prog_13_method_54_code 40 = .ok (.aload_n 0, 1) := by decide +kernel
theorem d_M_race_41 : decode prog_13_method_54_code 41 = .ok (.iload_n 2, 1) := by decide +kernel
theorem d_M_race_42 : decode prog_13_method_54_code 42 = .ok (.invokevirtual 360, 3) := by decide +kernel
theorem d_M_race_45 : decode prog_13_method_54_code 45 = .ok (.iconst 0, 1) := by decide +kernel
theorem d_M_race_46 : decode prog_13_method_54_code 46 = .ok (.istore_n 3, 1) := by decide +kernel
theorem d_M_race_47 : decode prog_13_method_54_code 47 = .ok (.iconst 0, 1) := by decide +kernel
theorem d_M_race_48 : decode prog_13_method_54_code 48 = .ok (.istore 4, 2) := by decide +kernel
theorem d_M_race_50 : decode prog_13_method_54_code 50 = .ok (.iconst 0, 1) := by decide +kernel
theorem d_M_race_51 : decode prog_13_method_54_code 51 = .ok (.istore 5, 2) := by decide +kernel
theorem d_M_race_53 : decode prog_13_method_54_code 53 = .ok (.iload 5, 2) := by decide +kernel
theorem d_M_race_55 : decode prog_13_method_54_code 55 = .ok (.aload_n 0, 1) := by decide +kernel
theorem d_M_race_56 : decode prog_13_method_54_code 56 = .ok (.getfield 16, 3) := by decide +kernel
theorem d_M_race_59 : decode prog_13_method_54_code 59 = .ok (.getfield 164, 3) := by decide +kernel
theorem d_M_race_62 : decode prog_13_method_54_code 62 = .ok (.if_icmp .ge 94, 3) := by decide +kernel
theorem d_M_race_65 : decode prog_13_method_54_code 65 = .ok (.aload_n 0, 1) := by decide +kernel
theorem d_M_race_66 : decode prog_13_method_54_code 66 = .ok (.iload 5, 2) := by decide +kernel
theorem d_M_race_68 : decode prog_13_method_54_code 68 = .ok (.invokevirtual 354, 3) := by decide +kernel
theorem d_M_race_71 : decode prog_13_method_54_code 71 = .ok (.ifCond .eq 79, 3) := by decide +kernel
theorem d_M_race_74 : decode prog_13_method_54_code 74 = .ok (.aload_n 0, 1) := by decide +kernel
theorem d_M_race_75 : decode prog_13_method_54_code 75 = .ok (.getfield 45, 3) := by decide +kernel
theorem d_M_race_78 : decode prog_13_method_54_code 78 = .ok (.iload 5, 2) := by decide +kernel
theorem d_M_race_80 : decode prog_13_method_54_code 80 = .ok (.invokestatic 296, 3) := by decide +kernel
theorem d_M_race_83 : decode prog_13_method_54_code 83 = .ok (.iconst 4, 1) := by decide +kernel
theorem d_M_race_84 : decode prog_13_method_54_code 84 = .ok (.iadd, 1) := by decide +kernel
theorem d_M_race_85 : decode prog_13_method_54_code 85 = .ok (.iaload, 1) := by decide +kernel
theorem d_M_race_86 : decode prog_13_method_54_code 86 = .ok (.iconst 2, 1) := by decide +kernel
theorem d_M_race_87 : decode prog_13_method_54_code 87 = .ok (.if_icmp .ne 6, 3) := by decide +kernel
theorem d_M_race_90 : decode prog_13_method_54_code 90 = .ok (.goto 60, 3) := by decide +kernel
theorem d_M_race_93 : decode prog_13_method_54_code 93 = .ok (.aload_n 0, 1) := by decide +kernel
theorem d_M_race_94 : decode prog_13_method_54_code 94 = .ok (.getfield 45, 3) := by decide +kernel
theorem d_M_race_97 : decode prog_13_method_54_code 97 = .ok (.iload 5, 2) := by decide +kernel
theorem d_M_race_99 : decode prog_13_method_54_code 99 = .ok (.invokestatic 296, 3) := by decide +kernel
theorem d_M_race_102 : decode prog_13_method_54_code 102 = .ok (.iconst 3, 1) := by decide +kernel
theorem d_M_race_103 : decode prog_13_method_54_code 103 = .ok (.iadd, 1) := by decide +kernel
theorem d_M_race_104 : decode prog_13_method_54_code 104 = .ok (.iaload, 1) := by decide +kernel
theorem d_M_race_105 : decode prog_13_method_54_code 105 = .ok (.istore 6, 2) := by decide +kernel
theorem d_M_race_107 : decode prog_13_method_54_code 107 = .ok (.aload_n 0, 1) := by decide +kernel
theorem d_M_race_108 : decode prog_13_method_54_code 108 = .ok (.iload 6, 2) := by decide +kernel
theorem d_M_race_110 : decode prog_13_method_54_code 110 = .ok (.iload_n 1, 1) := by decide +kernel
theorem d_M_race_111 : decode prog_13_method_54_code 111 = .ok (.invokevirtual 378, 3) := by decide +kernel
theorem d_M_race_114 : decode prog_13_method_54_code 114 = .ok (.ifCond .eq 6, 3) := by decide +kernel
theorem d_M_race_117 : decode prog_13_method_54_code 117 = .ok (.iinc 3 1, 3) := by decide +kernel
theorem d_M_race_120 : decode prog_13_method_54_code 120 = .ok (.aload_n 0, 1) := by decide +kernel
theorem d_M_race_121 : decode prog_13_method_54_code 121 = .ok (.getfield 16, 3) := by decide +kernel
theorem d_M_race_124 : decode prog_13_method_54_code 124 = .ok (.getfield 232, 3) := by decide +kernel
theorem d_M_race_127 : decode prog_13_method_54_code 127 = .ok (.iload 6, 2) := by decide +kernel
theorem d_M_race_129 : decode prog_13_method_54_code 129 = .ok (.iaload, 1) := by decide +kernel
theorem d_M_race_130 : decode prog_13_method_54_code 130 = .ok (.ifCond .ne 20, 3) := by decide +kernel
theorem d_M_race_133 : decode prog_13_method_54_code 133 = .ok (.aload_n 0, 1) := by decide +kernel
theorem d_M_race_134 : decode prog_13_method_54_code 134 = .ok (.getfield 16, 3) := by decide +kernel
theorem d_M_race_137 : decode prog_13_method_54_code 137 = .ok (.getfield 244, 3) := by decide +kernel
theorem d_M_race_140 : decode prog_13_method_54_code 140 = .ok (.iload 6, 2) := by decide +kernel
theorem d_M_race_142 : decode prog_13_method_54_code 142 = .ok (.iaload, 1) := by decide +kernel
theorem d_M_race_143 : decode prog_13_method_54_code 143 = .ok (.iload_n 1, 1) := by decide +kernel
theorem d_M_race_144 : decode prog_13_method_54_code 144 = .ok (.if_icmp .ne 6, 3) := by decide +kernel
theorem d_M_race_147 : decode prog_13_method_54_code 147 = .ok (.iinc 4 1, 3) := by decide +kernel
theorem d_M_race_150 : decode prog_13_method_54_code 150 = .ok (.iinc 5 1, 3) := by decide +kernel
theorem d_M_race_153 : decode prog_13_method_54_code 153 = .ok (.goto (-100), 3) := by decide +kernel
theorem d_M_race_156 : decode prog_13_method_54_code 156 = .ok (.iload_n 3, 1) := by decide +kernel
theorem d_M_race_157 : decode prog_13_method_54_code 157 = .ok (.iconst 1, 1) := by decide +kernel
theorem d_M_race_158 : decode prog_13_method_54_code 158 = .ok (.if_icmp .le 10, 3) := by decide +kernel
theorem d_M_race_161 : decode prog_13_method_54_code 161 = .ok (.iload 4, 2) := by decide +kernel
theorem d_M_race_163 : decode prog_13_method_54_code 163 = .ok (.ifCond .le 5, 3) := by decide +kernel
theorem d_M_race_166 : decode prog_13_method_54_code 166 = .ok (.iload_n 2, 1) := by decide +kernel
theorem d_M_race_167 : decode prog_13_method_54_code 167 = .ok (.ireturn, 1) := by decide +kernel
theorem d_M_race_168 : decode prog_13_method_54_code 168 = .ok (.iinc 2 1, 3) := by decide +kernel
theorem d_M_race_171 : decode prog_13_method_54_code 171 = .ok (.goto (-139), 3) := by decide +kernel
theorem d_M_race_174 : decode prog_13_method_54_code 174 = .ok (.bipush (-2), 2) := by decide +kernel
theorem d_M_race_176 : decode prog_13_method_54_code 176 = .ok (.ireturn, 1) := by decide +kernel
def zf_M_race_168 (F : Nat) (k32 : Int32 → Int32 → zs_S → Option (Int32 × zs_S)) (x1 : Int32) (x2 : Int32) (σ : zs_S) : Option (Int32 × zs_S) :=
  zq_v (x2 + 1) fun v41 =>
  k32 x1 v41 σ
def zf_M_race_150 (F : Nat) (k32 : Int32 → Int32 → zs_S → Option (Int32 × zs_S)) (k53 : Int32 → Int32 → Int32 → Int32 → Int32 → zs_S → Option (Int32 × zs_S)) (x1 : Int32) (x2 : Int32) (x3 : Int32) (x4 : Int32) (x5 : Int32) (σ : zs_S) : Option (Int32 × zs_S) :=
  zq_v (x5 + 1) fun v40 =>
  k53 x1 x2 x3 x4 v40 σ
def zf_M_race_120 (F : Nat) (k32 : Int32 → Int32 → zs_S → Option (Int32 × zs_S)) (k53 : Int32 → Int32 → Int32 → Int32 → Int32 → zs_S → Option (Int32 × zs_S)) (x1 : Int32) (x2 : Int32) (x3 : Int32) (x4 : Int32) (x5 : Int32) (x6 : Int32) (σ : zs_S) : Option (Int32 × zs_S) :=
  zq_q (zs_r σ 1 2) fun q29 =>
  zq_g (zq_k 1 q29 19) <|
  zq_q (zd_rf 1 q29 7) fun q31 =>
  zq_g (zq_k 1 q31 0) <|
  zq_g (zq_b x6 (zd_sh 1 q31).2) <|
  if (zs_i σ q31 (x6).toNatClampNeg) = 0 then (
    zq_q (zs_r σ 1 2) fun q34 =>
    zq_g (zq_k 1 q34 19) <|
    zq_q (zd_rf 1 q34 8) fun q36 =>
    zq_g (zq_k 1 q36 0) <|
    zq_g (zq_b x6 (zd_sh 1 q36).2) <|
    if (zs_i σ q36 (x6).toNatClampNeg) = x1 then (
      zq_v (x4 + 1) fun v39 =>
      zf_M_race_150 F k32 k53 x1 x2 x3 v39 x5 σ
    ) else (
      zf_M_race_150 F k32 k53 x1 x2 x3 x4 x5 σ
    )
  ) else (
    zf_M_race_150 F k32 k53 x1 x2 x3 x4 x5 σ
  )
def zf_M_race_53 (F : Nat) (k32 : Int32 → Int32 → zs_S → Option (Int32 × zs_S)) : Nat → Int32 → Int32 → Int32 → Int32 → Int32 → zs_S → Option (Int32 × zs_S)
  | 0, _, _, _, _, _, _ => none
  | n + 1, x1, x2, x3, x4, x5, σ =>
    zq_q (zs_r σ 1 2) fun q11 =>
    zq_g (zq_k 1 q11 19) <|
    if (zs_i σ q11 5) ≤ x5 then (
      if x3 ≤ 1 then (
        zf_M_race_168 F k32 x1 x2 σ
      ) else (
        if x4 ≤ 0 then (
          zf_M_race_168 F k32 x1 x2 σ
        ) else (
          some (x2, σ)
        )
      )
    ) else (
      zq_c (zf_M_isReady F x5 σ) fun r14 σ13 =>
      if r14 = 0 then (
        zf_M_race_150 F k32 (zf_M_race_53 F k32 n) x1 x2 x3 x4 x5 σ13
      ) else (
        zq_c (zf_M_each F x5 σ13) fun r17 σ16 =>
        zq_g (zq_b (r17 + 4) 34) <|
        if (zs_i σ16 64 (r17 + 4).toNatClampNeg) = 2 then (
          zf_M_race_150 F k32 (zf_M_race_53 F k32 n) x1 x2 x3 x4 x5 σ16
        ) else (
          zq_c (zf_M_each F x5 σ16) fun r21 σ20 =>
          zq_g (zq_b (r21 + 3) 34) <|
          zq_v (zs_i σ20 64 (r21 + 3).toNatClampNeg) fun v24 =>
          zq_c (zf_M_has F v24 x1 σ20) fun r26 σ25 =>
          if r26 = 0 then (
            zf_M_race_120 F k32 (zf_M_race_53 F k32 n) x1 x2 x3 x4 x5 v24 σ25
          ) else (
            zq_v (x3 + 1) fun v28 =>
            zf_M_race_120 F k32 (zf_M_race_53 F k32 n) x1 x2 v28 x4 x5 v24 σ25
          )
        )
      )
    )
def zf_M_race_32 (F : Nat)  : Nat → Int32 → Int32 → zs_S → Option (Int32 × zs_S)
  | 0, _, _, _ => none
  | n + 1, x1, x2, σ =>
    if (zs_i σ 1 23) ≤ x2 then (
      some ((-2), σ)
    ) else (
      zq_d (zf_M_load F x2 σ) fun σ8 =>
      zf_M_race_53 F (zf_M_race_32 F n) F x1 x2 0 0 0 σ8
    )
def zf_M_race_27 (F : Nat)   (σ : zs_S) : Option (Int32 × zs_S) :=
  some ((-2), σ)
def zf_M_race (F : Nat) (x1 : Int32) (σ : zs_S) : Option (Int32 × zs_S) :=
  if (zs_i σ 1 4) = 0 then (
    zf_M_race_27 F σ
  ) else (
    zq_q (zs_r σ 1 2) fun q1 =>
    zq_g (zq_k 1 q1 19) <|
    zq_q (zd_rf 1 q1 0) fun q3 =>
    zq_g (zq_k 1 q3 20) <|
    zq_c (zf_M_in F x1 0 ((zs_i σ q3 2) - 1) σ) fun r6 σ5 =>
    if r6 = 0 then (
      zf_M_race_27 F σ5
    ) else (
      zf_M_race_32 F F x1 0 σ5
    )
  )
set_option maxHeartbeats 4000000 in
set_option maxRecDepth 100000 in
theorem zc_M_race {l : Launch} {D : va_G} {cA : Nat → ClassId} {ad : Nat → Nat} {A : Nat → Prop} {F : Nat} {x1 : Int32} {σ : zs_S} {q : Int32 × zs_S} (hJ : zs_J ad) (hf : zf_M_race F x1 σ = some q) : Met l y_M_race (.code y_M_race prog_13_method_54_code 7 (some .int) :: zd_ww) { frames := 2, cells := 0, slots := 0, locals := 81 } (va_Pc [.ref (ad 1), .int x1] (zs_U 1 D cA ad A σ)) (zs_Qi 1 D cA ad A q) 0 0 A := by
  refine Met.ofW (cc := prog_13_method_54_code) (maxL := 7) (ret := (some .int)) (by decide) rfl ?_
  intro p e s m args below meth c s₁ B hml hv
  obtain ⟨hargs, hP, hK, hD, hZ⟩ := hv
  have G : zs_G 1 p s m args c prog_13_method_54_code 7 "ScheduleCheckModel" D cA ad A := ⟨⟨B.exec, B.bytes, hml, findClass_of_methodNamed B.named, fun w h => atoms_spec B.pre w (List.mem_cons_of_mem _ h)⟩, hK, hJ, hZ⟩
  have hw : zs_I 1 D cA ad A s σ s.heap [] := ⟨hP, hD, va_S.rf⟩
  have hx := G.1.1
  have hb := G.1.2.1
  have hown := G.1.2.2.2.1
  have hts := G.1.2.2.2.2
  have hr := B.returns
  have hlocks := B.notSynchronized
  have he : entryFrame m args 7 = F0 m 0 ((lg_sl [.ref (ad 1), .int x1] ++ List.replicate (7 - (lg_sl [.ref (ad 1), .int x1]).length) Slot.unset).toArray) [] := by rw [hargs]; exact lg_entry_eq m _ 7
  have hl := lv_entry [.ref (ad 1), .int x1] (n := 7) (Nat.le_of_ble_eq_true rfl)
  rw [he]
  generalize (lg_sl [.ref (ad 1), .int x1] ++ List.replicate (7 - (lg_sl [.ref (ad 1), .int x1]).length) Slot.unset).toArray = ls at hl
  have hl : lv_has ls 7 [(0, .ref (ad 1)), (1, .int x1)] := hl
  obtain ⟨RR, hR⟩ : ∃ z, z = (headSpec (.code y_M_race prog_13_method_54_code 7 (some .int) :: zd_ww) { frames := 2, cells := 0, slots := 0, locals := 81 }).room := ⟨_, rfl⟩
  rw [← hR]
  obtain ⟨QQ, hQ⟩ : ∃ z, z = MQ below (zs_Qi 1 D cA ad A q) args s 0 0 A := ⟨_, rfl⟩
  rw [← hQ]
  have hR1 : 2 ≤ RR.frames := by rw [hR]; exact Nat.le_refl _
  have hR2 : 81 ≤ RR.locals := by rw [hR]; exact Nat.le_refl _
  generalize s.heap = H at hw ⊢
  generalize ([] : List Loc) = locs at hw ⊢
  have K168 : ∀ (k32 : Int32 → Int32 → zs_S → Option (Int32 × zs_S)) (hk32 : ∀ (x1 : Int32) (x2 : Int32) (σ : zs_S) (H : Heap) (locs : List Loc) (ls : Array Slot), k32 x1 x2 σ = some q → zs_I 1 D cA ad A s σ H locs → lv_has ls 7 [(0, .ref (ad 1)), (1, .int x1), (2, .int x2)] → W p l e RR s m args below meth c H locs 0 0 QQ (F0 m 32 ls [])) (x1 : Int32) (x2 : Int32) (σ : zs_S) (H : Heap) (locs : List Loc) (ls : Array Slot), zf_M_race_168 F k32 x1 x2 σ = some q → zs_I 1 D cA ad A s σ H locs → lv_has ls 7 [(0, .ref (ad 1)), (1, .int x1), (2, .int x2)] → W p l e RR s m args below meth c H locs 0 0 QQ (F0 m 168 ls []) := by
    intro k32 hk32 x1 x2 σ H locs ls hf hw hl
    unfold zf_M_race_168 at hf
    obtain ⟨v41, e_v41, hf⟩ := zq_ss hf
    refine lv_iinc (v := v41) hx hb d_M_race_168 hl (k := 2) rfl (zq_inc (k := 1) (by decide) e_v41) (by decide) rfl (fun ls hl => ?_)
    have hl : lv_has ls 7 [(2, .int v41), (0, .ref (ad 1)), (1, .int x1)] := hl
    refine lv_goto hx hb d_M_race_171 (tgt := 32) rfl ?_
    exact hk32 x1 v41 σ H locs ls hf hw (lv_sub hl [1, 2, 0] rfl)
  have K150 : ∀ (k32 : Int32 → Int32 → zs_S → Option (Int32 × zs_S)) (hk32 : ∀ (x1 : Int32) (x2 : Int32) (σ : zs_S) (H : Heap) (locs : List Loc) (ls : Array Slot), k32 x1 x2 σ = some q → zs_I 1 D cA ad A s σ H locs → lv_has ls 7 [(0, .ref (ad 1)), (1, .int x1), (2, .int x2)] → W p l e RR s m args below meth c H locs 0 0 QQ (F0 m 32 ls [])) (k53 : Int32 → Int32 → Int32 → Int32 → Int32 → zs_S → Option (Int32 × zs_S)) (hk53 : ∀ (x1 : Int32) (x2 : Int32) (x3 : Int32) (x4 : Int32) (x5 : Int32) (σ : zs_S) (H : Heap) (locs : List Loc) (ls : Array Slot), k53 x1 x2 x3 x4 x5 σ = some q → zs_I 1 D cA ad A s σ H locs → lv_has ls 7 [(0, .ref (ad 1)), (1, .int x1), (2, .int x2), (3, .int x3), (4, .int x4), (5, .int x5)] → W p l e RR s m args below meth c H locs 0 0 QQ (F0 m 53 ls [])) (x1 : Int32) (x2 : Int32) (x3 : Int32) (x4 : Int32) (x5 : Int32) (σ : zs_S) (H : Heap) (locs : List Loc) (ls : Array Slot), zf_M_race_150 F k32 k53 x1 x2 x3 x4 x5 σ = some q → zs_I 1 D cA ad A s σ H locs → lv_has ls 7 [(0, .ref (ad 1)), (1, .int x1), (2, .int x2), (3, .int x3), (4, .int x4), (5, .int x5)] → W p l e RR s m args below meth c H locs 0 0 QQ (F0 m 150 ls []) := by
    intro k32 hk32 k53 hk53 x1 x2 x3 x4 x5 σ H locs ls hf hw hl
    unfold zf_M_race_150 at hf
    obtain ⟨v40, e_v40, hf⟩ := zq_ss hf
    refine lv_iinc (v := v40) hx hb d_M_race_150 hl (k := 5) rfl (zq_inc (k := 1) (by decide) e_v40) (by decide) rfl (fun ls hl => ?_)
    have hl : lv_has ls 7 [(5, .int v40), (0, .ref (ad 1)), (1, .int x1), (2, .int x2), (3, .int x3), (4, .int x4)] := hl
    refine lv_goto hx hb d_M_race_153 (tgt := 53) rfl ?_
    exact hk53 x1 x2 x3 x4 v40 σ H locs ls hf hw (lv_sub hl [1, 2, 3, 4, 5, 0] rfl)
  have K120 : ∀ (k32 : Int32 → Int32 → zs_S → Option (Int32 × zs_S)) (hk32 : ∀ (x1 : Int32) (x2 : Int32) (σ : zs_S) (H : Heap) (locs : List Loc) (ls : Array Slot), k32 x1 x2 σ = some q → zs_I 1 D cA ad A s σ H locs → lv_has ls 7 [(0, .ref (ad 1)), (1, .int x1), (2, .int x2)] → W p l e RR s m args below meth c H locs 0 0 QQ (F0 m 32 ls [])) (k53 : Int32 → Int32 → Int32 → Int32 → Int32 → zs_S → Option (Int32 × zs_S)) (hk53 : ∀ (x1 : Int32) (x2 : Int32) (x3 : Int32) (x4 : Int32) (x5 : Int32) (σ : zs_S) (H : Heap) (locs : List Loc) (ls : Array Slot), k53 x1 x2 x3 x4 x5 σ = some q → zs_I 1 D cA ad A s σ H locs → lv_has ls 7 [(0, .ref (ad 1)), (1, .int x1), (2, .int x2), (3, .int x3), (4, .int x4), (5, .int x5)] → W p l e RR s m args below meth c H locs 0 0 QQ (F0 m 53 ls [])) (x1 : Int32) (x2 : Int32) (x3 : Int32) (x4 : Int32) (x5 : Int32) (x6 : Int32) (σ : zs_S) (H : Heap) (locs : List Loc) (ls : Array Slot), zf_M_race_120 F k32 k53 x1 x2 x3 x4 x5 x6 σ = some q → zs_I 1 D cA ad A s σ H locs → lv_has ls 7 [(0, .ref (ad 1)), (1, .int x1), (2, .int x2), (3, .int x3), (4, .int x4), (5, .int x5), (6, .int x6)] → W p l e RR s m args below meth c H locs 0 0 QQ (F0 m 120 ls []) := by
    intro k32 hk32 k53 hk53 x1 x2 x3 x4 x5 x6 σ H locs ls hf hw hl
    unfold zf_M_race_120 at hf
    refine lv_aload_n hx hb d_M_race_120 rfl (lv_at hl 0 rfl) ?_
    obtain ⟨q29, e_q29, h_q29, hf⟩ := zq_qs hf
    refine zr_get (ci := 8) G hw 1 2 zi_8 rfl rfl rfl (by decide) zm_616 (fun _ h => h) (v := .ref (ad q29)) (zs_fr rfl e_q29 h_q29) d_M_race_121 ?_
    obtain ⟨hs30, hf⟩ := zq_gs hf
    have hs30 := zq_ks hs30
    obtain ⟨q31, e_q31, h_q31, hf⟩ := zq_qs hf
    refine zr_get (ci := 9) G hw q29 7 zi_9 hs30 rfl rfl (by decide) zm_625 (fun _ h => h) (v := .ref (ad q31)) (zs_fs rfl e_q31 h_q31) d_M_race_124 ?_
    refine lv_iload hx hb d_M_race_127 (lv_at hl 6 rfl) ?_
    obtain ⟨hs32, hf⟩ := zq_gs hf
    have hs32 := zq_ks hs32
    obtain ⟨hi33, hf⟩ := zq_gs hf
    refine zr_iald G hw q31 hs32 rfl hi33 d_M_race_129 ?_
    refine lv_if_ne hx hb d_M_race_130 (tgt := 150) rfl (fun hc => ?_) (fun hc => ?_)
    · have hf := (if_neg hc).symm.trans hf
      exact K150 k32 hk32 k53 hk53 x1 x2 x3 x4 x5 σ H locs ls hf hw (lv_sub hl [0, 1, 2, 3, 4, 5] rfl)
    · have hf := (if_pos hc).symm.trans hf
      refine lv_aload_n hx hb d_M_race_133 rfl (lv_at hl 0 rfl) ?_
      obtain ⟨q34, e_q34, h_q34, hf⟩ := zq_qs hf
      refine zr_get (ci := 8) G hw 1 2 zi_8 rfl rfl rfl (by decide) zm_616 (fun _ h => h) (v := .ref (ad q34)) (zs_fr rfl e_q34 h_q34) d_M_race_134 ?_
      obtain ⟨hs35, hf⟩ := zq_gs hf
      have hs35 := zq_ks hs35
      obtain ⟨q36, e_q36, h_q36, hf⟩ := zq_qs hf
      refine zr_get (ci := 9) G hw q34 8 zi_9 hs35 rfl rfl (by decide) zm_626 (fun _ h => h) (v := .ref (ad q36)) (zs_fs rfl e_q36 h_q36) d_M_race_137 ?_
      refine lv_iload hx hb d_M_race_140 (lv_at hl 6 rfl) ?_
      obtain ⟨hs37, hf⟩ := zq_gs hf
      have hs37 := zq_ks hs37
      obtain ⟨hi38, hf⟩ := zq_gs hf
      refine zr_iald G hw q36 hs37 rfl hi38 d_M_race_142 ?_
      refine lv_iload_n hx hb d_M_race_143 rfl (lv_at hl 1 rfl) ?_
      refine lv_icmp_ne hx hb d_M_race_144 (tgt := 150) rfl (fun hc => ?_) (fun hc => ?_)
      · have hf := (if_neg hc).symm.trans hf
        exact K150 k32 hk32 k53 hk53 x1 x2 x3 x4 x5 σ H locs ls hf hw (lv_sub hl [0, 1, 2, 3, 4, 5] rfl)
      · have hf := (if_pos hc).symm.trans hf
        obtain ⟨v39, e_v39, hf⟩ := zq_ss hf
        refine lv_iinc (v := v39) hx hb d_M_race_147 hl (k := 4) rfl (zq_inc (k := 1) (by decide) e_v39) (by decide) rfl (fun ls hl => ?_)
        have hl : lv_has ls 7 [(4, .int v39), (0, .ref (ad 1)), (1, .int x1), (2, .int x2), (3, .int x3), (5, .int x5), (6, .int x6)] := hl
        exact K150 k32 hk32 k53 hk53 x1 x2 x3 v39 x5 σ H locs ls hf hw (lv_sub hl [1, 2, 3, 4, 0, 5] rfl)
  have K53 : ∀ (k32 : Int32 → Int32 → zs_S → Option (Int32 × zs_S)) (hk32 : ∀ (x1 : Int32) (x2 : Int32) (σ : zs_S) (H : Heap) (locs : List Loc) (ls : Array Slot), k32 x1 x2 σ = some q → zs_I 1 D cA ad A s σ H locs → lv_has ls 7 [(0, .ref (ad 1)), (1, .int x1), (2, .int x2)] → W p l e RR s m args below meth c H locs 0 0 QQ (F0 m 32 ls [])) (n : Nat) (x1 : Int32) (x2 : Int32) (x3 : Int32) (x4 : Int32) (x5 : Int32) (σ : zs_S) (H : Heap) (locs : List Loc) (ls : Array Slot), zf_M_race_53 F k32 n x1 x2 x3 x4 x5 σ = some q → zs_I 1 D cA ad A s σ H locs → lv_has ls 7 [(0, .ref (ad 1)), (1, .int x1), (2, .int x2), (3, .int x3), (4, .int x4), (5, .int x5)] → W p l e RR s m args below meth c H locs 0 0 QQ (F0 m 53 ls []) := by
    intro k32 hk32 n
    induction n with
    | zero => intro x1 x2 x3 x4 x5 σ H locs ls hf hw hl; exact nomatch (show (none : Option (Int32 × zs_S)) = some q from hf)
    | succ n ih =>
      intro x1 x2 x3 x4 x5 σ H locs ls hf hw hl
      rw [zf_M_race_53] at hf
      refine lv_iload hx hb d_M_race_53 (lv_at hl 5 rfl) ?_
      refine lv_aload_n hx hb d_M_race_55 rfl (lv_at hl 0 rfl) ?_
      obtain ⟨q11, e_q11, h_q11, hf⟩ := zq_qs hf
      refine zr_get (ci := 8) G hw 1 2 zi_8 rfl rfl rfl (by decide) zm_616 (fun _ h => h) (v := .ref (ad q11)) (zs_fr rfl e_q11 h_q11) d_M_race_56 ?_
      obtain ⟨hs12, hf⟩ := zq_gs hf
      have hs12 := zq_ks hs12
      refine zr_get (ci := 9) G hw q11 5 zi_9 hs12 rfl rfl (by decide) zm_646 (fun _ h => h) (v := .int (zs_i σ q11 5)) rfl d_M_race_59 ?_
      refine lv_icmp_ge hx hb d_M_race_62 (tgt := 156) rfl (fun hc => ?_) (fun hc => ?_)
      · have hf := (if_pos hc).symm.trans hf
        refine lv_iload_n hx hb d_M_race_156 rfl (lv_at hl 3 rfl) ?_
        refine lv_iconst (v := 1) hx hb d_M_race_157 (by decide) ?_
        refine lv_icmp_le hx hb d_M_race_158 (tgt := 168) rfl (fun hc => ?_) (fun hc => ?_)
        · have hf := (if_pos hc).symm.trans hf
          exact K168 k32 hk32 x1 x2 σ H locs ls hf hw (lv_sub hl [0, 1, 2] rfl)
        · have hf := (if_neg hc).symm.trans hf
          refine lv_iload hx hb d_M_race_161 (lv_at hl 4 rfl) ?_
          refine lv_if_le hx hb d_M_race_163 (tgt := 168) rfl (fun hc => ?_) (fun hc => ?_)
          · have hf := (if_pos hc).symm.trans hf
            exact K168 k32 hk32 x1 x2 σ H locs ls hf hw (lv_sub hl [0, 1, 2] rfl)
          · have hf := (if_neg hc).symm.trans hf
            refine lv_iload_n hx hb d_M_race_166 rfl (lv_at hl 2 rfl) ?_
            exact zr_iret G hw hr hlocks hf hQ d_M_race_167
      · have hf := (if_neg hc).symm.trans hf
        refine lv_aload_n hx hb d_M_race_65 rfl (lv_at hl 0 rfl) ?_
        refine lv_iload hx hb d_M_race_66 (lv_at hl 5 rfl) ?_
        obtain ⟨r14, σ13, hc15, hf⟩ := zq_cs hf
        refine zr_ci hw (zr_runV (rest := []) (ci := 8) (o := 1) G hw [.int x5] (zc_M_isReady hJ hc15) (cwV 1 hts (zs_gV zm_673 zm_674 zm_675 zm_551 zm_672) rfl rfl rfl (by decide +kernel) ⟨Nat.le_trans (by decide) hR1, Nat.le_trans (by decide) hR2⟩) rfl rfl rfl hl.1 (Nat.le_of_ble_eq_true rfl) d_M_race_68 ⟨Nat.zero_le _, Nat.zero_le _⟩) (fun H locs hw => ?_)
        refine lv_if_eq hx hb d_M_race_71 (tgt := 150) rfl (fun hc => ?_) (fun hc => ?_)
        · have hf := (if_pos hc).symm.trans hf
          exact K150 k32 hk32 (zf_M_race_53 F k32 n) ih x1 x2 x3 x4 x5 σ13 H locs ls hf hw (lv_sub hl [0, 1, 2, 3, 4, 5] rfl)
        · have hf := (if_neg hc).symm.trans hf
          refine lv_aload_n hx hb d_M_race_74 rfl (lv_at hl 0 rfl) ?_
          refine zr_get (ci := 8) G hw 1 25 zi_8 rfl rfl rfl (by decide) zm_621 (fun _ h => h) (v := .ref (ad 64)) rfl d_M_race_75 ?_
          refine lv_iload hx hb d_M_race_78 (lv_at hl 5 rfl) ?_
          obtain ⟨r17, σ16, hc18, hf⟩ := zq_cs hf
          refine zr_ci hw (zr_runS (rest := [.ref (ad 64)]) G hw [.int x5] (zc_M_each hJ hc18) (va_cwS 1 hts (zs_gS zm_623 zm_624 zm_551 zm_622) rfl rfl rfl (by decide +kernel) ⟨Nat.le_trans (by decide) hR1, Nat.le_trans (by decide) hR2⟩) rfl hl.1 (Nat.le_of_ble_eq_true rfl) d_M_race_80 ⟨Nat.zero_le _, Nat.zero_le _⟩) (fun H locs hw => ?_)
          refine lv_iconst (v := 4) hx hb d_M_race_83 (by decide) ?_
          refine lv_iadd hx hb d_M_race_84 ?_
          obtain ⟨hi19, hf⟩ := zq_gs hf
          refine zr_iald G hw 64 rfl rfl hi19 d_M_race_85 ?_
          refine lv_iconst (v := 2) hx hb d_M_race_86 (by decide) ?_
          refine lv_icmp_ne hx hb d_M_race_87 (tgt := 93) rfl (fun hc => ?_) (fun hc => ?_)
          · have hf := (if_neg hc).symm.trans hf
            refine lv_aload_n hx hb d_M_race_93 rfl (lv_at hl 0 rfl) ?_
            refine zr_get (ci := 8) G hw 1 25 zi_8 rfl rfl rfl (by decide) zm_621 (fun _ h => h) (v := .ref (ad 64)) rfl d_M_race_94 ?_
            refine lv_iload hx hb d_M_race_97 (lv_at hl 5 rfl) ?_
            obtain ⟨r21, σ20, hc22, hf⟩ := zq_cs hf
            refine zr_ci hw (zr_runS (rest := [.ref (ad 64)]) G hw [.int x5] (zc_M_each hJ hc22) (va_cwS 1 hts (zs_gS zm_623 zm_624 zm_551 zm_622) rfl rfl rfl (by decide +kernel) ⟨Nat.le_trans (by decide) hR1, Nat.le_trans (by decide) hR2⟩) rfl hl.1 (Nat.le_of_ble_eq_true rfl) d_M_race_99 ⟨Nat.zero_le _, Nat.zero_le _⟩) (fun H locs hw => ?_)
            refine lv_iconst (v := 3) hx hb d_M_race_102 (by decide) ?_
            refine lv_iadd hx hb d_M_race_103 ?_
            obtain ⟨hi23, hf⟩ := zq_gs hf
            refine zr_iald G hw 64 rfl rfl hi23 d_M_race_104 ?_
            refine lv_topi (fun v24 e_v24 => ?_)
            have hf := zq_vs e_v24 hf
            refine lv_istore hx hb d_M_race_105 hl (by decide) rfl (fun ls hl => ?_)
            have hl : lv_has ls 7 [(6, .int v24), (0, .ref (ad 1)), (1, .int x1), (2, .int x2), (3, .int x3), (4, .int x4), (5, .int x5)] := hl
            refine lv_aload_n hx hb d_M_race_107 rfl (lv_at hl 1 rfl) ?_
            refine lv_iload hx hb d_M_race_108 (lv_at hl 0 rfl) ?_
            refine lv_iload_n hx hb d_M_race_110 rfl (lv_at hl 2 rfl) ?_
            obtain ⟨r26, σ25, hc27, hf⟩ := zq_cs hf
            refine zr_ci hw (zr_runV (rest := []) (ci := 8) (o := 1) G hw [.int v24, .int x1] (zc_M_has hJ hc27) (cwV 2 hts (zs_gV zm_768 zm_769 zm_770 zm_551 zm_767) rfl rfl rfl (by decide +kernel) ⟨Nat.le_trans (by decide) hR1, Nat.le_trans (by decide) hR2⟩) rfl rfl rfl hl.1 (Nat.le_of_ble_eq_true rfl) d_M_race_111 ⟨Nat.zero_le _, Nat.zero_le _⟩) (fun H locs hw => ?_)
            refine lv_if_eq hx hb d_M_race_114 (tgt := 120) rfl (fun hc => ?_) (fun hc => ?_)
            · have hf := (if_pos hc).symm.trans hf
              exact K120 k32 hk32 (zf_M_race_53 F k32 n) ih x1 x2 x3 x4 x5 v24 σ25 H locs ls hf hw (lv_sub hl [1, 2, 3, 4, 5, 6, 0] rfl)
            · have hf := (if_neg hc).symm.trans hf
              obtain ⟨v28, e_v28, hf⟩ := zq_ss hf
              refine lv_iinc (v := v28) hx hb d_M_race_117 hl (k := 4) rfl (zq_inc (k := 1) (by decide) e_v28) (by decide) rfl (fun ls hl => ?_)
              have hl : lv_has ls 7 [(3, .int v28), (6, .int v24), (0, .ref (ad 1)), (1, .int x1), (2, .int x2), (4, .int x4), (5, .int x5)] := hl
              exact K120 k32 hk32 (zf_M_race_53 F k32 n) ih x1 x2 v28 x4 x5 v24 σ25 H locs ls hf hw (lv_sub hl [2, 3, 4, 0, 5, 6, 1] rfl)
          · have hf := (if_pos hc).symm.trans hf
            refine lv_goto hx hb d_M_race_90 (tgt := 150) rfl ?_
            exact K150 k32 hk32 (zf_M_race_53 F k32 n) ih x1 x2 x3 x4 x5 σ16 H locs ls hf hw (lv_sub hl [0, 1, 2, 3, 4, 5] rfl)
  have K32 : ∀ (n : Nat) (x1 : Int32) (x2 : Int32) (σ : zs_S) (H : Heap) (locs : List Loc) (ls : Array Slot), zf_M_race_32 F n x1 x2 σ = some q → zs_I 1 D cA ad A s σ H locs → lv_has ls 7 [(0, .ref (ad 1)), (1, .int x1), (2, .int x2)] → W p l e RR s m args below meth c H locs 0 0 QQ (F0 m 32 ls []) := by
    intro  n
    induction n with
    | zero => intro x1 x2 σ H locs ls hf hw hl; exact nomatch (show (none : Option (Int32 × zs_S)) = some q from hf)
    | succ n ih =>
      intro x1 x2 σ H locs ls hf hw hl
      rw [zf_M_race_32] at hf
      refine lv_iload_n hx hb d_M_race_32 rfl (lv_at hl 2 rfl) ?_
      refine lv_aload_n hx hb d_M_race_33 rfl (lv_at hl 0 rfl) ?_
      refine zr_get (ci := 8) G hw 1 23 zi_8 rfl rfl rfl (by decide) zm_629 (fun _ h => h) (v := .int (zs_i σ 1 23)) rfl d_M_race_34 ?_
      refine lv_icmp_ge hx hb d_M_race_37 (tgt := 174) rfl (fun hc => ?_) (fun hc => ?_)
      · have hf := (if_pos hc).symm.trans hf
        refine lv_bipush (v := (-2)) hx hb d_M_race_174 (by decide) ?_
        exact zr_iret G hw hr hlocks hf hQ d_M_race_176
      · have hf := (if_neg hc).symm.trans hf
        refine lv_aload_n hx hb d_M_race_40 rfl (lv_at hl 0 rfl) ?_
        refine lv_iload_n hx hb d_M_race_41 rfl (lv_at hl 2 rfl) ?_
        obtain ⟨σ8, hc10, hf⟩ := zq_ds hf
        refine zr_cv hw (zr_runV (rest := []) (ci := 8) (o := 1) G hw [.int x2] (zc_M_load hJ hc10) (cwV 1 hts (zs_gV zm_669 zm_670 zm_671 zm_551 zm_668) rfl rfl rfl (by decide +kernel) ⟨Nat.le_trans (by decide) hR1, Nat.le_trans (by decide) hR2⟩) rfl rfl rfl hl.1 (Nat.le_of_ble_eq_true rfl) d_M_race_42 ⟨Nat.zero_le _, Nat.zero_le _⟩) (fun H locs hw => ?_)
        refine lv_iconst (v := 0) hx hb d_M_race_45 (by decide) ?_
        refine lv_istore_n hx hb d_M_race_46 rfl hl (by decide) rfl (fun ls hl => ?_)
        have hl : lv_has ls 7 [(3, .int 0), (0, .ref (ad 1)), (1, .int x1), (2, .int x2)] := hl
        refine lv_iconst (v := 0) hx hb d_M_race_47 (by decide) ?_
        refine lv_istore hx hb d_M_race_48 hl (by decide) rfl (fun ls hl => ?_)
        have hl : lv_has ls 7 [(4, .int 0), (3, .int 0), (0, .ref (ad 1)), (1, .int x1), (2, .int x2)] := hl
        refine lv_iconst (v := 0) hx hb d_M_race_50 (by decide) ?_
        refine lv_istore hx hb d_M_race_51 hl (by decide) rfl (fun ls hl => ?_)
        have hl : lv_has ls 7 [(5, .int 0), (4, .int 0), (3, .int 0), (0, .ref (ad 1)), (1, .int x1), (2, .int x2)] := hl
        exact K53 (zf_M_race_32 F n) ih F x1 x2 0 0 0 σ8 H locs ls hf hw (lv_sub hl [3, 4, 5, 2, 1, 0] rfl)
  have K27 : ∀ (σ : zs_S) (H : Heap) (locs : List Loc) (ls : Array Slot), zf_M_race_27 F σ = some q → zs_I 1 D cA ad A s σ H locs → lv_has ls 7 [] → W p l e RR s m args below meth c H locs 0 0 QQ (F0 m 27 ls []) := by
    intro   σ H locs ls hf hw hl
    unfold zf_M_race_27 at hf
    refine lv_bipush (v := (-2)) hx hb d_M_race_27 (by decide) ?_
    exact zr_iret G hw hr hlocks hf hQ d_M_race_29
  unfold zf_M_race at hf
  refine lv_aload_n hx hb d_M_race_0 rfl (lv_at hl 0 rfl) ?_
  refine zr_get (ci := 8) G hw 1 4 zi_8 rfl rfl rfl (by decide) zm_741 (fun _ h => h) (v := .int (zs_i σ 1 4)) rfl d_M_race_1 ?_
  refine lv_if_eq hx hb d_M_race_4 (tgt := 27) rfl (fun hc => ?_) (fun hc => ?_)
  · have hf := (if_pos hc).symm.trans hf
    exact K27 σ H locs ls hf hw (lv_sub hl [] rfl)
  · have hf := (if_neg hc).symm.trans hf
    refine lv_iload_n hx hb d_M_race_7 rfl (lv_at hl 1 rfl) ?_
    refine lv_iconst (v := 0) hx hb d_M_race_8 (by decide) ?_
    refine lv_aload_n hx hb d_M_race_9 rfl (lv_at hl 0 rfl) ?_
    obtain ⟨q1, e_q1, h_q1, hf⟩ := zq_qs hf
    refine zr_get (ci := 8) G hw 1 2 zi_8 rfl rfl rfl (by decide) zm_616 (fun _ h => h) (v := .ref (ad q1)) (zs_fr rfl e_q1 h_q1) d_M_race_10 ?_
    obtain ⟨hs2, hf⟩ := zq_gs hf
    have hs2 := zq_ks hs2
    obtain ⟨q3, e_q3, h_q3, hf⟩ := zq_qs hf
    refine zr_get (ci := 9) G hw q1 0 zi_9 hs2 rfl rfl (by decide) zm_591 (fun _ h => h) (v := .ref (ad q3)) (zs_fs rfl e_q3 h_q3) d_M_race_13 ?_
    obtain ⟨hs4, hf⟩ := zq_gs hf
    have hs4 := zq_ks hs4
    refine zr_get (ci := 10) G hw q3 2 zi_10 hs4 rfl rfl (by decide) zm_596 (fun _ h => h) (v := .int (zs_i σ q3 2)) rfl d_M_race_16 ?_
    refine lv_iconst (v := 1) hx hb d_M_race_19 (by decide) ?_
    refine lv_isub hx hb d_M_race_20 ?_
    obtain ⟨r6, σ5, hc7, hf⟩ := zq_cs hf
    refine zr_ci hw (zr_runS (rest := []) G hw [.int x1, .int 0, .int ((zs_i σ q3 2) - 1)] (zc_M_in hJ hc7) (va_cwS 3 hts (zs_gS zm_614 zm_615 zm_551 zm_613) rfl rfl rfl (by decide +kernel) ⟨Nat.le_trans (by decide) hR1, Nat.le_trans (by decide) hR2⟩) rfl hl.1 (Nat.le_of_ble_eq_true rfl) d_M_race_21 ⟨Nat.zero_le _, Nat.zero_le _⟩) (fun H locs hw => ?_)
    refine lv_if_ne hx hb d_M_race_24 (tgt := 30) rfl (fun hc => ?_) (fun hc => ?_)
    · have hf := (if_neg hc).symm.trans hf
      refine lv_iconst (v := 0) hx hb d_M_race_30 (by decide) ?_
      refine lv_istore_n hx hb d_M_race_31 rfl hl (by decide) rfl (fun ls hl => ?_)
      have hl : lv_has ls 7 [(2, .int 0), (0, .ref (ad 1)), (1, .int x1)] := hl
      exact K32 F x1 0 σ5 H locs ls hf hw (lv_sub hl [1, 2, 0] rfl)
    · have hf := (if_pos hc).symm.trans hf
      exact K27 σ5 H locs ls hf hw (lv_sub hl [] rfl)
