theorem zm_141 : Cond.fieldLink "ScheduleCheck$Explorer" 15 "ScheduleCheck$Explorer" "program" "LScheduleCheck$Program;" ∈ zd_ww := zd_me 293 (by decide +kernel) (by decide +kernel)
theorem zm_142 : Cond.fieldLink "ScheduleCheck$Explorer" 90 "ScheduleCheck$Program" "statements" "[LScheduleCheck$Statement;" ∈ zd_ww := zd_me 262 (by decide +kernel) (by decide +kernel)
theorem zm_143 : Cond.fieldLink "ScheduleCheck$Explorer" 9 "ScheduleCheck$Explorer" "states" "LScheduleCheck$States;" ∈ zd_ww := zd_me 292 (by decide +kernel) (by decide +kernel)
theorem zm_144 : Cond.code ⟨"ScheduleCheck$States","cell","(II)I"⟩ prog_9_method_4_code 3 (Option.some FieldType.int) ∈ zd_ww := zd_me 622 (by decide +kernel) (by decide +kernel)
theorem zm_145 : Cond.methodLink "ScheduleCheck$Explorer" 39 ⟨"ScheduleCheck$States","cell","(II)I"⟩ ∈ zd_ww := zd_me 619 (by decide +kernel) (by decide +kernel)
theorem zm_146 : Cond.instanceMethod ⟨"ScheduleCheck$States","cell","(II)I"⟩ ∈ zd_ww := zd_me 620 (by decide +kernel) (by decide +kernel)
theorem zm_147 : Cond.selects "ScheduleCheck$States" ⟨"ScheduleCheck$States","cell","(II)I"⟩ ⟨"ScheduleCheck$States","cell","(II)I"⟩ ∈ zd_ww := zd_me 621 (by decide +kernel) (by decide +kernel)
theorem zm_148 : Cond.code ⟨"ScheduleCheck$Explorer","nextOf","(II)LScheduleCheck$Statement;"⟩ prog_4_method_5_code 3 (Option.some (FieldType.object "ScheduleCheck$Statement")) ∈ zd_ww := zd_me 630 (by decide +kernel) (by decide +kernel)
theorem zm_149 : Cond.methodLink "ScheduleCheck$Explorer" 72 ⟨"ScheduleCheck$Explorer","nextOf","(II)LScheduleCheck$Statement;"⟩ ∈ zd_ww := zd_me 627 (by decide +kernel) (by decide +kernel)
theorem zm_150 : Cond.instanceMethod ⟨"ScheduleCheck$Explorer","nextOf","(II)LScheduleCheck$Statement;"⟩ ∈ zd_ww := zd_me 629 (by decide +kernel) (by decide +kernel)
theorem zm_151 : Cond.selects "ScheduleCheck$Explorer" ⟨"ScheduleCheck$Explorer","nextOf","(II)LScheduleCheck$Statement;"⟩ ⟨"ScheduleCheck$Explorer","nextOf","(II)LScheduleCheck$Statement;"⟩ ∈ zd_ww := zd_ms 35 (by decide +kernel) (by decide +kernel)
theorem zm_152 : Cond.initialized "ScheduleCheck$Explorer" ∈ zd_ww := zd_me 10 (by decide +kernel) (by decide +kernel)
theorem zm_153 : Cond.fieldLink "ScheduleCheck$Explorer" 76 "ScheduleCheck$Statement" "kind" "LScheduleCheck$Kind;" ∈ zd_ww := zd_me 169 (by decide +kernel) (by decide +kernel)
theorem zm_154 : Cond.fieldLink "ScheduleCheck$Explorer" 82 "ScheduleCheck$Kind" "TAKE" "LScheduleCheck$Kind;" ∈ zd_ww := zd_me 631 (by decide +kernel) (by decide +kernel)
theorem zm_155 : Cond.fieldLink "ScheduleCheck$Explorer" 87 "ScheduleCheck$Statement" "target" "I" ∈ zd_ww := zd_me 175 (by decide +kernel) (by decide +kernel)
theorem zm_156 : Cond.fieldLink "ScheduleCheck$Explorer" 140 "ScheduleCheck$Program" "code" "LScheduleCheck$Code;" ∈ zd_ww := zd_me 265 (by decide +kernel) (by decide +kernel)
theorem zm_157 : Cond.fieldLink "ScheduleCheck$Explorer" 144 "ScheduleCheck$Statement" "codeFrom" "I" ∈ zd_ww := zd_me 178 (by decide +kernel) (by decide +kernel)
theorem zm_158 : Cond.fieldLink "ScheduleCheck$Explorer" 147 "ScheduleCheck$Statement" "codeTo" "I" ∈ zd_ww := zd_me 181 (by decide +kernel) (by decide +kernel)
theorem zm_159 : Cond.fieldLink "ScheduleCheck$Explorer" 150 "ScheduleCheck$States" "cells" "[B" ∈ zd_ww := zd_me 108 (by decide +kernel) (by decide +kernel)
theorem zm_160 : Cond.code ⟨"ScheduleCheck$Code","result","(II[BI)I"⟩ prog_3_method_3_code 8 (Option.some FieldType.int) ∈ zd_ww := zd_me 671 (by decide +kernel) (by decide +kernel)
theorem zm_161 : Cond.methodLink "ScheduleCheck$Explorer" 154 ⟨"ScheduleCheck$Code","result","(II[BI)I"⟩ ∈ zd_ww := zd_me 668 (by decide +kernel) (by decide +kernel)
theorem zm_162 : Cond.instanceMethod ⟨"ScheduleCheck$Code","result","(II[BI)I"⟩ ∈ zd_ww := zd_me 669 (by decide +kernel) (by decide +kernel)
theorem zm_163 : Cond.selects "ScheduleCheck$Code" ⟨"ScheduleCheck$Code","result","(II[BI)I"⟩ ⟨"ScheduleCheck$Code","result","(II[BI)I"⟩ ∈ zd_ww := zd_me 670 (by decide +kernel) (by decide +kernel)
theorem zm_164 : Cond.code ⟨"ScheduleCheck$States","set","(II)V"⟩ prog_9_method_5_code 3 none ∈ zd_ww := zd_me 594 (by decide +kernel) (by decide +kernel)
theorem zm_165 : Cond.methodLink "ScheduleCheck$Explorer" 59 ⟨"ScheduleCheck$States","set","(II)V"⟩ ∈ zd_ww := zd_me 591 (by decide +kernel) (by decide +kernel)
theorem zm_166 : Cond.instanceMethod ⟨"ScheduleCheck$States","set","(II)V"⟩ ∈ zd_ww := zd_me 592 (by decide +kernel) (by decide +kernel)
theorem zm_167 : Cond.selects "ScheduleCheck$States" ⟨"ScheduleCheck$States","set","(II)V"⟩ ⟨"ScheduleCheck$States","set","(II)V"⟩ ∈ zd_ww := zd_me 593 (by decide +kernel) (by decide +kernel)
theorem zm_168 : Cond.code ⟨"ScheduleCheck$States","keep","(II)V"⟩ prog_9_method_9_code 5 none ∈ zd_ww := zd_me 598 (by decide +kernel) (by decide +kernel)
theorem zm_169 : Cond.methodLink "ScheduleCheck$Explorer" 27 ⟨"ScheduleCheck$States","keep","(II)V"⟩ ∈ zd_ww := zd_me 595 (by decide +kernel) (by decide +kernel)
theorem zm_170 : Cond.instanceMethod ⟨"ScheduleCheck$States","keep","(II)V"⟩ ∈ zd_ww := zd_me 596 (by decide +kernel) (by decide +kernel)
theorem zm_171 : Cond.selects "ScheduleCheck$States" ⟨"ScheduleCheck$States","keep","(II)V"⟩ ⟨"ScheduleCheck$States","keep","(II)V"⟩ ∈ zd_ww := zd_me 597 (by decide +kernel) (by decide +kernel)
theorem zm_172 : Cond.fieldLink "ScheduleCheck$Explorer" 43 "ScheduleCheck$Program" "threads" "I" ∈ zd_ww := zd_me 246 (by decide +kernel) (by decide +kernel)
theorem zm_173 : Cond.fieldLink "ScheduleCheck$Explorer" 97 "ScheduleCheck$Statement" "follow" "I" ∈ zd_ww := zd_me 193 (by decide +kernel) (by decide +kernel)
theorem zm_174 : Cond.code ⟨"ScheduleCheck$Explorer","go","(III)V"⟩ prog_4_method_9_code 4 none ∈ zd_ww := zd_me 646 (by decide +kernel) (by decide +kernel)
theorem zm_175 : Cond.methodLink "ScheduleCheck$Explorer" 100 ⟨"ScheduleCheck$Explorer","go","(III)V"⟩ ∈ zd_ww := zd_me 643 (by decide +kernel) (by decide +kernel)
theorem zm_176 : Cond.instanceMethod ⟨"ScheduleCheck$Explorer","go","(III)V"⟩ ∈ zd_ww := zd_me 645 (by decide +kernel) (by decide +kernel)
theorem zm_177 : Cond.selects "ScheduleCheck$Explorer" ⟨"ScheduleCheck$Explorer","go","(III)V"⟩ ⟨"ScheduleCheck$Explorer","go","(III)V"⟩ ∈ zd_ww := zd_ms 37 (by decide +kernel) (by decide +kernel)
theorem zm_178 : Cond.code ⟨"ScheduleCheck$Explorer","waitsFor","(III)Z"⟩ prog_4_method_13_code 4 (Option.some FieldType.boolean) ∈ zd_ww := zd_me 691 (by decide +kernel) (by decide +kernel)
theorem zm_179 : Cond.methodLink "ScheduleCheck$Explorer" 160 ⟨"ScheduleCheck$Explorer","waitsFor","(III)Z"⟩ ∈ zd_ww := zd_me 688 (by decide +kernel) (by decide +kernel)
theorem zm_180 : Cond.instanceMethod ⟨"ScheduleCheck$Explorer","waitsFor","(III)Z"⟩ ∈ zd_ww := zd_me 690 (by decide +kernel) (by decide +kernel)
theorem zm_181 : Cond.selects "ScheduleCheck$Explorer" ⟨"ScheduleCheck$Explorer","waitsFor","(III)Z"⟩ ⟨"ScheduleCheck$Explorer","waitsFor","(III)Z"⟩ ∈ zd_ww := zd_ms 41 (by decide +kernel) (by decide +kernel)
theorem zm_182 : Cond.code ⟨"ScheduleCheck$States","copy","(I)V"⟩ prog_9_method_6_code 2 none ∈ zd_ww := zd_me 639 (by decide +kernel) (by decide +kernel)
theorem zm_183 : Cond.methodLink "ScheduleCheck$Explorer" 94 ⟨"ScheduleCheck$States","copy","(I)V"⟩ ∈ zd_ww := zd_me 636 (by decide +kernel) (by decide +kernel)
theorem zm_184 : Cond.instanceMethod ⟨"ScheduleCheck$States","copy","(I)V"⟩ ∈ zd_ww := zd_me 637 (by decide +kernel) (by decide +kernel)
theorem zm_185 : Cond.selects "ScheduleCheck$States" ⟨"ScheduleCheck$States","copy","(I)V"⟩ ⟨"ScheduleCheck$States","copy","(I)V"⟩ ∈ zd_ww := zd_me 638 (by decide +kernel) (by decide +kernel)
theorem zm_186 : Cond.code ⟨"ScheduleCheck$Explorer","resultIn","(ILScheduleCheck$Statement;)I"⟩ prog_4_method_8_code 3 (Option.some FieldType.int) ∈ zd_ww := zd_me 667 (by decide +kernel) (by decide +kernel)
theorem zm_187 : Cond.methodLink "ScheduleCheck$Explorer" 120 ⟨"ScheduleCheck$Explorer","resultIn","(ILScheduleCheck$Statement;)I"⟩ ∈ zd_ww := zd_me 664 (by decide +kernel) (by decide +kernel)
theorem zm_188 : Cond.instanceMethod ⟨"ScheduleCheck$Explorer","resultIn","(ILScheduleCheck$Statement;)I"⟩ ∈ zd_ww := zd_me 666 (by decide +kernel) (by decide +kernel)
theorem zm_189 : Cond.selects "ScheduleCheck$Explorer" ⟨"ScheduleCheck$Explorer","resultIn","(ILScheduleCheck$Statement;)I"⟩ ⟨"ScheduleCheck$Explorer","resultIn","(ILScheduleCheck$Statement;)I"⟩ ∈ zd_ww := zd_ms 39 (by decide +kernel) (by decide +kernel)
theorem zm_190 : Cond.code ⟨"ScheduleCheck$Explorer","err","(III)V"⟩ prog_4_method_10_code 4 none ∈ zd_ww := zd_me 658 (by decide +kernel) (by decide +kernel)
theorem zm_191 : Cond.methodLink "ScheduleCheck$Explorer" 108 ⟨"ScheduleCheck$Explorer","err","(III)V"⟩ ∈ zd_ww := zd_me 655 (by decide +kernel) (by decide +kernel)
theorem zm_192 : Cond.instanceMethod ⟨"ScheduleCheck$Explorer","err","(III)V"⟩ ∈ zd_ww := zd_me 657 (by decide +kernel) (by decide +kernel)
theorem zm_193 : Cond.selects "ScheduleCheck$Explorer" ⟨"ScheduleCheck$Explorer","err","(III)V"⟩ ⟨"ScheduleCheck$Explorer","err","(III)V"⟩ ∈ zd_ww := zd_ms 38 (by decide +kernel) (by decide +kernel)
theorem zm_194 : Cond.code ⟨"ScheduleCheck$Statement","needsOwner","()Z"⟩ prog_8_method_3_code 1 (Option.some FieldType.boolean) ∈ zd_ww := zd_me 650 (by decide +kernel) (by decide +kernel)
theorem zm_195 : Cond.methodLink "ScheduleCheck$Explorer" 104 ⟨"ScheduleCheck$Statement","needsOwner","()Z"⟩ ∈ zd_ww := zd_me 647 (by decide +kernel) (by decide +kernel)
theorem zm_196 : Cond.instanceMethod ⟨"ScheduleCheck$Statement","needsOwner","()Z"⟩ ∈ zd_ww := zd_me 648 (by decide +kernel) (by decide +kernel)
theorem zm_197 : Cond.selects "ScheduleCheck$Statement" ⟨"ScheduleCheck$Statement","needsOwner","()Z"⟩ ⟨"ScheduleCheck$Statement","needsOwner","()Z"⟩ ∈ zd_ww := zd_me 649 (by decide +kernel) (by decide +kernel)
theorem zm_198 : Cond.initialized "ScheduleCheck$Statement" ∈ zd_ww := zd_me 6 (by decide +kernel) (by decide +kernel)
theorem zm_199 : Cond.fieldLink "ScheduleCheck$Explorer" 111 "ScheduleCheck$1" "$SwitchMap$ScheduleCheck$Kind" "[I" ∈ zd_ww := zd_me 659 (by decide +kernel) (by decide +kernel)
theorem zm_200 : Cond.methodLink "ScheduleCheck$Explorer" 116 ⟨"ScheduleCheck$Kind","ordinal","()I"⟩ ∈ zd_ww := zd_me 661 (by decide +kernel) (by decide +kernel)
theorem zm_201 : Cond.sameMethod "ScheduleCheck$Kind" "java/lang/Enum" "ordinal" "()I" ∈ zd_ww := zd_me 662 (by decide +kernel) (by decide +kernel)
theorem zm_202 : Cond.selects "ScheduleCheck$Kind" ⟨"ScheduleCheck$Kind","ordinal","()I"⟩ ⟨"java/lang/Enum","ordinal","()I"⟩ ∈ zd_ww := zd_me 663 (by decide +kernel) (by decide +kernel)
theorem zm_203 : Cond.code ⟨"ScheduleCheck$Explorer","wakeOne","(IILScheduleCheck$Statement;)V"⟩ prog_4_method_11_code 6 none ∈ zd_ww := zd_me 687 (by decide +kernel) (by decide +kernel)
theorem zm_204 : Cond.methodLink "ScheduleCheck$Explorer" 124 ⟨"ScheduleCheck$Explorer","wakeOne","(IILScheduleCheck$Statement;)V"⟩ ∈ zd_ww := zd_me 684 (by decide +kernel) (by decide +kernel)
theorem zm_205 : Cond.instanceMethod ⟨"ScheduleCheck$Explorer","wakeOne","(IILScheduleCheck$Statement;)V"⟩ ∈ zd_ww := zd_me 686 (by decide +kernel) (by decide +kernel)
theorem zm_206 : Cond.selects "ScheduleCheck$Explorer" ⟨"ScheduleCheck$Explorer","wakeOne","(IILScheduleCheck$Statement;)V"⟩ ⟨"ScheduleCheck$Explorer","wakeOne","(IILScheduleCheck$Statement;)V"⟩ ∈ zd_ww := zd_ms 40 (by decide +kernel) (by decide +kernel)
theorem zm_207 : Cond.code ⟨"ScheduleCheck$Explorer","wakeAll","(IILScheduleCheck$Statement;)V"⟩ prog_4_method_12_code 5 none ∈ zd_ww := zd_me 695 (by decide +kernel) (by decide +kernel)
theorem zm_208 : Cond.methodLink "ScheduleCheck$Explorer" 128 ⟨"ScheduleCheck$Explorer","wakeAll","(IILScheduleCheck$Statement;)V"⟩ ∈ zd_ww := zd_me 692 (by decide +kernel) (by decide +kernel)
theorem zm_209 : Cond.instanceMethod ⟨"ScheduleCheck$Explorer","wakeAll","(IILScheduleCheck$Statement;)V"⟩ ∈ zd_ww := zd_me 694 (by decide +kernel) (by decide +kernel)
theorem zm_210 : Cond.selects "ScheduleCheck$Explorer" ⟨"ScheduleCheck$Explorer","wakeAll","(IILScheduleCheck$Statement;)V"⟩ ⟨"ScheduleCheck$Explorer","wakeAll","(IILScheduleCheck$Statement;)V"⟩ ∈ zd_ww := zd_ms 42 (by decide +kernel) (by decide +kernel)
theorem zm_211 : Cond.code ⟨"ScheduleCheck$Explorer","assertThat","(IILScheduleCheck$Statement;)V"⟩ prog_4_method_7_code 4 none ∈ zd_ww := zd_me 699 (by decide +kernel) (by decide +kernel)
theorem zm_212 : Cond.methodLink "ScheduleCheck$Explorer" 131 ⟨"ScheduleCheck$Explorer","assertThat","(IILScheduleCheck$Statement;)V"⟩ ∈ zd_ww := zd_me 696 (by decide +kernel) (by decide +kernel)
theorem zm_213 : Cond.instanceMethod ⟨"ScheduleCheck$Explorer","assertThat","(IILScheduleCheck$Statement;)V"⟩ ∈ zd_ww := zd_me 698 (by decide +kernel) (by decide +kernel)
theorem zm_214 : Cond.selects "ScheduleCheck$Explorer" ⟨"ScheduleCheck$Explorer","assertThat","(IILScheduleCheck$Statement;)V"⟩ ⟨"ScheduleCheck$Explorer","assertThat","(IILScheduleCheck$Statement;)V"⟩ ∈ zd_ww := zd_ms 43 (by decide +kernel) (by decide +kernel)
theorem zm_215 : Cond.fieldLink "ScheduleCheck$Explorer" 137 "ScheduleCheck$Statement" "no" "I" ∈ zd_ww := zd_me 189 (by decide +kernel) (by decide +kernel)
theorem zm_216 : Cond.fieldLink "ScheduleCheck$Explorer" 134 "ScheduleCheck$Statement" "yes" "I" ∈ zd_ww := zd_me 185 (by decide +kernel) (by decide +kernel)
theorem zm_217 : Cond.code ⟨"ScheduleCheck$States","stepsOf","(I)I"⟩ prog_9_method_8_code 2 (Option.some FieldType.int) ∈ zd_ww := zd_me 729 (by decide +kernel) (by decide +kernel)
theorem zm_218 : Cond.methodLink "ScheduleCheck$Explorer" 168 ⟨"ScheduleCheck$States","stepsOf","(I)I"⟩ ∈ zd_ww := zd_me 726 (by decide +kernel) (by decide +kernel)
theorem zm_219 : Cond.instanceMethod ⟨"ScheduleCheck$States","stepsOf","(I)I"⟩ ∈ zd_ww := zd_me 727 (by decide +kernel) (by decide +kernel)
theorem zm_220 : Cond.selects "ScheduleCheck$States" ⟨"ScheduleCheck$States","stepsOf","(I)I"⟩ ⟨"ScheduleCheck$States","stepsOf","(I)I"⟩ ∈ zd_ww := zd_me 728 (by decide +kernel) (by decide +kernel)
theorem zm_221 : Cond.code ⟨"ScheduleCheck$Explorer","haveAllEnded","(I)Z"⟩ prog_4_method_15_code 3 (Option.some FieldType.boolean) ∈ zd_ww := zd_me 725 (by decide +kernel) (by decide +kernel)
theorem zm_222 : Cond.methodLink "ScheduleCheck$Explorer" 164 ⟨"ScheduleCheck$Explorer","haveAllEnded","(I)Z"⟩ ∈ zd_ww := zd_me 722 (by decide +kernel) (by decide +kernel)
theorem zm_223 : Cond.instanceMethod ⟨"ScheduleCheck$Explorer","haveAllEnded","(I)Z"⟩ ∈ zd_ww := zd_me 724 (by decide +kernel) (by decide +kernel)
theorem zm_224 : Cond.selects "ScheduleCheck$Explorer" ⟨"ScheduleCheck$Explorer","haveAllEnded","(I)Z"⟩ ⟨"ScheduleCheck$Explorer","haveAllEnded","(I)Z"⟩ ∈ zd_ww := zd_ms 46 (by decide +kernel) (by decide +kernel)
theorem zm_225 : Cond.code ⟨"ScheduleCheck$Explorer","isReady","(II)Z"⟩ prog_4_method_4_code 5 (Option.some FieldType.boolean) ∈ zd_ww := zd_me 626 (by decide +kernel) (by decide +kernel)
theorem zm_226 : Cond.methodLink "ScheduleCheck$Explorer" 48 ⟨"ScheduleCheck$Explorer","isReady","(II)Z"⟩ ∈ zd_ww := zd_me 623 (by decide +kernel) (by decide +kernel)
theorem zm_227 : Cond.instanceMethod ⟨"ScheduleCheck$Explorer","isReady","(II)Z"⟩ ∈ zd_ww := zd_me 625 (by decide +kernel) (by decide +kernel)
theorem zm_228 : Cond.selects "ScheduleCheck$Explorer" ⟨"ScheduleCheck$Explorer","isReady","(II)Z"⟩ ⟨"ScheduleCheck$Explorer","isReady","(II)Z"⟩ ∈ zd_ww := zd_ms 34 (by decide +kernel) (by decide +kernel)
theorem zm_229 : Cond.code ⟨"ScheduleCheck$Statement","uses","(I)Z"⟩ prog_8_method_4_code 2 (Option.some FieldType.boolean) ∈ zd_ww := zd_me 799 (by decide +kernel) (by decide +kernel)
theorem zm_230 : Cond.methodLink "ScheduleCheck$Explorer" 172 ⟨"ScheduleCheck$Statement","uses","(I)Z"⟩ ∈ zd_ww := zd_me 796 (by decide +kernel) (by decide +kernel)
theorem zm_231 : Cond.instanceMethod ⟨"ScheduleCheck$Statement","uses","(I)Z"⟩ ∈ zd_ww := zd_me 797 (by decide +kernel) (by decide +kernel)
theorem zm_232 : Cond.selects "ScheduleCheck$Statement" ⟨"ScheduleCheck$Statement","uses","(I)Z"⟩ ⟨"ScheduleCheck$Statement","uses","(I)Z"⟩ ∈ zd_ww := zd_me 798 (by decide +kernel) (by decide +kernel)
theorem zm_233 : Cond.code ⟨"ScheduleCheck$Statement","assigns","(I)Z"⟩ prog_8_method_5_code 2 (Option.some FieldType.boolean) ∈ zd_ww := zd_me 803 (by decide +kernel) (by decide +kernel)
theorem zm_234 : Cond.methodLink "ScheduleCheck$Explorer" 175 ⟨"ScheduleCheck$Statement","assigns","(I)Z"⟩ ∈ zd_ww := zd_me 800 (by decide +kernel) (by decide +kernel)
theorem zm_235 : Cond.instanceMethod ⟨"ScheduleCheck$Statement","assigns","(I)Z"⟩ ∈ zd_ww := zd_me 801 (by decide +kernel) (by decide +kernel)
theorem zm_236 : Cond.selects "ScheduleCheck$Statement" ⟨"ScheduleCheck$Statement","assigns","(I)Z"⟩ ⟨"ScheduleCheck$Statement","assigns","(I)Z"⟩ ∈ zd_ww := zd_me 802 (by decide +kernel) (by decide +kernel)
theorem zm_237 : Cond.fieldLink "ScheduleCheck$Explorer" 62 "ScheduleCheck$Program" "variables" "I" ∈ zd_ww := zd_me 239 (by decide +kernel) (by decide +kernel)
theorem zm_238 : Cond.fieldLink "ScheduleCheck$Explorer" 65 "ScheduleCheck$Program" "firstValues" "[I" ∈ zd_ww := zd_me 253 (by decide +kernel) (by decide +kernel)
theorem zm_239 : Cond.fieldLink "ScheduleCheck$Explorer" 69 "ScheduleCheck$Program" "entries" "[I" ∈ zd_ww := zd_me 259 (by decide +kernel) (by decide +kernel)
theorem zm_240 : Cond.code ⟨"ScheduleCheck$States","clear","()V"⟩ prog_9_method_2_code 1 none ∈ zd_ww := zd_me 583 (by decide +kernel) (by decide +kernel)
theorem zm_241 : Cond.methodLink "ScheduleCheck$Explorer" 19 ⟨"ScheduleCheck$States","clear","()V"⟩ ∈ zd_ww := zd_me 580 (by decide +kernel) (by decide +kernel)
theorem zm_242 : Cond.instanceMethod ⟨"ScheduleCheck$States","clear","()V"⟩ ∈ zd_ww := zd_me 581 (by decide +kernel) (by decide +kernel)
theorem zm_243 : Cond.selects "ScheduleCheck$States" ⟨"ScheduleCheck$States","clear","()V"⟩ ⟨"ScheduleCheck$States","clear","()V"⟩ ∈ zd_ww := zd_me 582 (by decide +kernel) (by decide +kernel)
theorem zm_244 : Cond.code ⟨"ScheduleCheck$Explorer","buildFirst","()V"⟩ prog_4_method_3_code 2 none ∈ zd_ww := zd_me 590 (by decide +kernel) (by decide +kernel)
theorem zm_245 : Cond.methodLink "ScheduleCheck$Explorer" 24 ⟨"ScheduleCheck$Explorer","buildFirst","()V"⟩ ∈ zd_ww := zd_me 587 (by decide +kernel) (by decide +kernel)
theorem zm_246 : Cond.instanceMethod ⟨"ScheduleCheck$Explorer","buildFirst","()V"⟩ ∈ zd_ww := zd_me 589 (by decide +kernel) (by decide +kernel)
theorem zm_247 : Cond.selects "ScheduleCheck$Explorer" ⟨"ScheduleCheck$Explorer","buildFirst","()V"⟩ ⟨"ScheduleCheck$Explorer","buildFirst","()V"⟩ ∈ zd_ww := zd_ms 29 (by decide +kernel) (by decide +kernel)
theorem zm_248 : Cond.fieldLink "ScheduleCheck$Explorer" 31 "ScheduleCheck$States" "size" "I" ∈ zd_ww := zd_me 123 (by decide +kernel) (by decide +kernel)
theorem zm_249 : Cond.code ⟨"ScheduleCheck$States","beginSteps","(I)V"⟩ prog_9_method_7_code 2 none ∈ zd_ww := zd_me 618 (by decide +kernel) (by decide +kernel)
theorem zm_250 : Cond.methodLink "ScheduleCheck$Explorer" 35 ⟨"ScheduleCheck$States","beginSteps","(I)V"⟩ ∈ zd_ww := zd_me 615 (by decide +kernel) (by decide +kernel)
theorem zm_251 : Cond.instanceMethod ⟨"ScheduleCheck$States","beginSteps","(I)V"⟩ ∈ zd_ww := zd_me 616 (by decide +kernel) (by decide +kernel)
theorem zm_252 : Cond.selects "ScheduleCheck$States" ⟨"ScheduleCheck$States","beginSteps","(I)V"⟩ ⟨"ScheduleCheck$States","beginSteps","(I)V"⟩ ∈ zd_ww := zd_me 617 (by decide +kernel) (by decide +kernel)
theorem zm_253 : Cond.fieldLink "ScheduleCheck$Explorer" 55 "ScheduleCheck$States" "overflows" "Z" ∈ zd_ww := zd_me 127 (by decide +kernel) (by decide +kernel)
theorem zm_254 : Cond.code ⟨"ScheduleCheck$Explorer","takeStep","(II)V"⟩ prog_4_method_6_code 4 none ∈ zd_ww := zd_me 635 (by decide +kernel) (by decide +kernel)
theorem zm_255 : Cond.methodLink "ScheduleCheck$Explorer" 52 ⟨"ScheduleCheck$Explorer","takeStep","(II)V"⟩ ∈ zd_ww := zd_me 632 (by decide +kernel) (by decide +kernel)
theorem zm_256 : Cond.instanceMethod ⟨"ScheduleCheck$Explorer","takeStep","(II)V"⟩ ∈ zd_ww := zd_me 634 (by decide +kernel) (by decide +kernel)
theorem zm_257 : Cond.selects "ScheduleCheck$Explorer" ⟨"ScheduleCheck$Explorer","takeStep","(II)V"⟩ ⟨"ScheduleCheck$Explorer","takeStep","(II)V"⟩ ∈ zd_ww := zd_ms 36 (by decide +kernel) (by decide +kernel)
/-! ScheduleCheck$Explorer.nextOf -/
def y_Explorer_nextOf : MethodName := ⟨"ScheduleCheck$Explorer","nextOf","(II)LScheduleCheck$Statement;"⟩
theorem d_Explorer_nextOf_0 : decode prog_4_method_5_code 0 = .ok (.aload_n 0, 1) := by decide +kernel
theorem d_Explorer_nextOf_1 : decode prog_4_method_5_code 1 = .ok (.getfield 15, 3) := by decide +kernel
theorem d_Explorer_nextOf_4 : decode prog_4_method_5_code 4 = .ok (.getfield 90, 3) := by decide +kernel
theorem d_Explorer_nextOf_7 : decode prog_4_method_5_code 7 = .ok (.aload_n 0, 1) := by decide +kernel
theorem d_Explorer_nextOf_8 : decode prog_4_method_5_code 8 = .ok (.getfield 9, 3) := by decide +kernel
theorem d_Explorer_nextOf_11 : decode prog_4_method_5_code 11 = .ok (.iload_n 1, 1) := by decide +kernel
theorem d_Explorer_nextOf_12 : decode prog_4_method_5_code 12 = .ok (.bipush 12, 2) := by decide +kernel
theorem d_Explorer_nextOf_14 : decode prog_4_method_5_code 14 = .ok (.iload_n 2, 1) := by decide +kernel
theorem d_Explorer_nextOf_15 : decode prog_4_method_5_code 15 = .ok (.iadd, 1) := by decide +kernel
theorem d_Explorer_nextOf_16 : decode prog_4_method_5_code 16 = .ok (.invokevirtual 39, 3) := by decide +kernel
theorem d_Explorer_nextOf_19 : decode prog_4_method_5_code 19 = .ok (.aaload, 1) := by decide +kernel
theorem d_Explorer_nextOf_20 : decode prog_4_method_5_code 20 = .ok (.areturn, 1) := by decide +kernel
def zf_Explorer_nextOf (F : Nat) (x1 : Int32) (x2 : Int32) (σ : zs_S) : Option (Nat × zs_S) :=
  zq_q (zs_r σ 138 1) fun q1 =>
  zq_g (zq_k 0 q1 15) <|
  zq_q (zd_rf 0 q1 7) fun q3 =>
  zq_c (zf_States_cell F x1 (12 + x2) σ) fun r5 σ4 =>
  zq_g (zq_k 0 q3 5) <|
  zq_g (zq_b r5 (zd_sh 0 q3).2) <|
  zq_q (zd_rf 0 q3 (r5).toNatClampNeg) fun q9 =>
  some (q9, σ4)
set_option maxHeartbeats 4000000 in
set_option maxRecDepth 100000 in
theorem zc_Explorer_nextOf {l : Launch} {D : va_G} {cA : Nat → ClassId} {ad : Nat → Nat} {A : Nat → Prop} {F : Nat} {x1 : Int32} {x2 : Int32} {σ : zs_S} {q : Nat × zs_S} (hJ : zs_J ad) (hf : zf_Explorer_nextOf F x1 x2 σ = some q) : Met l y_Explorer_nextOf (.code y_Explorer_nextOf prog_4_method_5_code 3 (some (.object "ScheduleCheck$Statement")) :: zd_ww) { frames := 1, cells := 0, slots := 0, locals := 22 } (va_Pc [.ref (ad 138), .int x1, .int x2] (zs_U 0 D cA ad A σ)) (zs_Qr 0 D cA ad A q) 0 0 A := by
  refine Met.ofW (cc := prog_4_method_5_code) (maxL := 3) (ret := (some (.object "ScheduleCheck$Statement"))) (by decide) rfl ?_
  intro p e s m args below meth c s₁ B hml hv
  obtain ⟨hargs, hP, hK, hD, hZ⟩ := hv
  have G : zs_G 0 p s m args c prog_4_method_5_code 3 "ScheduleCheck$Explorer" D cA ad A := ⟨⟨B.exec, B.bytes, hml, findClass_of_methodNamed B.named, fun w h => atoms_spec B.pre w (List.mem_cons_of_mem _ h)⟩, hK, hJ, hZ⟩
  have hw : zs_I 0 D cA ad A s σ s.heap [] := ⟨hP, hD, va_S.rf⟩
  have hx := G.1.1
  have hb := G.1.2.1
  have hown := G.1.2.2.2.1
  have hts := G.1.2.2.2.2
  have hr := B.returns
  have hlocks := B.notSynchronized
  have he : entryFrame m args 3 = F0 m 0 ((lg_sl [.ref (ad 138), .int x1, .int x2] ++ List.replicate (3 - (lg_sl [.ref (ad 138), .int x1, .int x2]).length) Slot.unset).toArray) [] := by rw [hargs]; exact lg_entry_eq m _ 3
  have hl := lv_entry [.ref (ad 138), .int x1, .int x2] (n := 3) (Nat.le_of_ble_eq_true rfl)
  rw [he]
  generalize (lg_sl [.ref (ad 138), .int x1, .int x2] ++ List.replicate (3 - (lg_sl [.ref (ad 138), .int x1, .int x2]).length) Slot.unset).toArray = ls at hl
  have hl : lv_has ls 3 [(0, .ref (ad 138)), (1, .int x1), (2, .int x2)] := hl
  obtain ⟨RR, hR⟩ : ∃ z, z = (headSpec (.code y_Explorer_nextOf prog_4_method_5_code 3 (some (.object "ScheduleCheck$Statement")) :: zd_ww) { frames := 1, cells := 0, slots := 0, locals := 22 }).room := ⟨_, rfl⟩
  rw [← hR]
  obtain ⟨QQ, hQ⟩ : ∃ z, z = MQ below (zs_Qr 0 D cA ad A q) args s 0 0 A := ⟨_, rfl⟩
  rw [← hQ]
  have hR1 : 1 ≤ RR.frames := by rw [hR]; exact Nat.le_refl _
  have hR2 : 22 ≤ RR.locals := by rw [hR]; exact Nat.le_refl _
  generalize s.heap = H at hw ⊢
  generalize ([] : List Loc) = locs at hw ⊢
  unfold zf_Explorer_nextOf at hf
  refine lv_aload_n hx hb d_Explorer_nextOf_0 rfl (lv_at hl 0 rfl) ?_
  obtain ⟨q1, e_q1, h_q1, hf⟩ := zq_qs hf
  refine zr_get (ci := 4) G hw 138 1 zi_4 rfl rfl rfl (by decide) zm_141 (fun _ h => h) (v := .ref (ad q1)) (zs_fr rfl e_q1 h_q1) d_Explorer_nextOf_1 ?_
  obtain ⟨hs2, hf⟩ := zq_gs hf
  have hs2 := zq_ks hs2
  obtain ⟨q3, e_q3, h_q3, hf⟩ := zq_qs hf
  refine zr_get (ci := 5) G hw q1 7 zi_5 hs2 rfl rfl (by decide) zm_142 (fun _ h => h) (v := .ref (ad q3)) (zs_fs rfl e_q3 h_q3) d_Explorer_nextOf_4 ?_
  refine lv_aload_n hx hb d_Explorer_nextOf_7 rfl (lv_at hl 0 rfl) ?_
  refine zr_get (ci := 4) G hw 138 0 zi_4 rfl rfl rfl (by decide) zm_143 (fun _ h => h) (v := .ref (ad 10)) rfl d_Explorer_nextOf_8 ?_
  refine lv_iload_n hx hb d_Explorer_nextOf_11 rfl (lv_at hl 1 rfl) ?_
  refine lv_bipush (v := 12) hx hb d_Explorer_nextOf_12 (by decide) ?_
  refine lv_iload_n hx hb d_Explorer_nextOf_14 rfl (lv_at hl 2 rfl) ?_
  refine lv_iadd hx hb d_Explorer_nextOf_15 ?_
  obtain ⟨r5, σ4, hc6, hf⟩ := zq_cs hf
  refine zr_ci hw (zr_runV (rest := [.ref (ad q3)]) (ci := 3) (o := 10) G hw [.int x1, .int (12 + x2)] (zc_States_cell hJ hc6) (cwV 2 hts (zs_gV zm_145 zm_146 zm_147 zm_39 zm_144) rfl rfl rfl (by decide +kernel) ⟨Nat.le_trans (by decide) hR1, Nat.le_trans (by decide) hR2⟩) rfl rfl rfl hl.1 (Nat.le_of_ble_eq_true rfl) d_Explorer_nextOf_16 ⟨Nat.zero_le _, Nat.zero_le _⟩) (fun H locs hw => ?_)
  obtain ⟨hs7, hf⟩ := zq_gs hf
  have hs7 := zq_ks hs7
  obtain ⟨hi8, hf⟩ := zq_gs hf
  obtain ⟨q9, e_q9, h_q9, hf⟩ := zq_qs hf
  refine zr_aald5 G hw q3 hs7 rfl hi8 (by rw [← e_q9]; exact h_q9) d_Explorer_nextOf_19 ?_
  rw [← e_q9]
  exact zr_aret G hw hr (Or.inl ⟨_, rfl⟩) hlocks hf hQ d_Explorer_nextOf_20
/-! ScheduleCheck$Explorer.isReady -/
def y_Explorer_isReady : MethodName := ⟨"ScheduleCheck$Explorer","isReady","(II)Z"⟩
theorem d_Explorer_isReady_0 : decode prog_4_method_4_code 0 = .ok (.aload_n 0, 1) := by decide +kernel
theorem d_Explorer_isReady_1 : decode prog_4_method_4_code 1 = .ok (.getfield 9, 3) := by decide +kernel
theorem d_Explorer_isReady_4 : decode prog_4_method_4_code 4 = .ok (.iload_n 1, 1) := by decide +kernel
theorem d_Explorer_isReady_5 : decode prog_4_method_4_code 5 = .ok (.bipush 16, 2) := by decide +kernel
theorem d_Explorer_isReady_7 : decode prog_4_method_4_code 7 = .ok (.iload_n 2, 1) := by decide +kernel
theorem d_Explorer_isReady_8 : decode prog_4_method_4_code 8 = .ok (.iadd, 1) := by decide +kernel
theorem d_Explorer_isReady_9 : decode prog_4_method_4_code 9 = .ok (.invokevirtual 39, 3) := by decide +kernel
theorem d_Explorer_isReady_12 : decode prog_4_method_4_code 12 = .ok (.istore_n 3, 1) := by decide +kernel
theorem d_Explorer_isReady_13 : decode prog_4_method_4_code 13 = .ok (.aload_n 0, 1) := by decide +kernel
theorem d_Explorer_isReady_14 : decode prog_4_method_4_code 14 = .ok (.getfield 9, 3) := by decide +kernel
theorem d_Explorer_isReady_17 : decode prog_4_method_4_code 17 = .ok (.iload_n 1, 1) := by decide +kernel
theorem d_Explorer_isReady_18 : decode prog_4_method_4_code 18 = .ok (.bipush 12, 2) := by decide +kernel
theorem d_Explorer_isReady_20 : decode prog_4_method_4_code 20 = .ok (.iload_n 2, 1) := by decide +kernel
theorem d_Explorer_isReady_21 : decode prog_4_method_4_code 21 = .ok (.iadd, 1) := by decide +kernel
theorem d_Explorer_isReady_22 : decode prog_4_method_4_code 22 = .ok (.invokevirtual 39, 3) := by decide +kernel
theorem d_Explorer_isReady_25 : decode prog_4_method_4_code 25 = .ok (.iconst (-1), 1) := by decide +kernel
theorem d_Explorer_isReady_26 : decode prog_4_method_4_code 26 = .ok (.if_icmp .eq 8, 3) := by decide +kernel
theorem d_Explorer_isReady_29 : decode prog_4_method_4_code 29 = .ok (.iload_n 3, 1) := by decide +kernel
theorem d_Explorer_isReady_30 : decode prog_4_method_4_code 30 = .ok (.iconst 1, 1) := by decide +kernel
theorem d_Explorer_isReady_31 : decode prog_4_method_4_code 31 = .ok (.if_icmp .ne 5, 3) := by decide +kernel
theorem d_Explorer_isReady_34 : decode prog_4_method_4_code 34 = .ok (.iconst 0, 1) := by decide +kernel
theorem d_Explorer_isReady_35 : decode prog_4_method_4_code 35 = .ok (.ireturn, 1) := by decide +kernel
theorem d_Explorer_isReady_36 : decode prog_4_method_4_code 36 = .ok (.aload_n 0, 1) := by decide +kernel
theorem d_Explorer_isReady_37 : decode prog_4_method_4_code 37 = .ok (.iload_n 1, 1) := by decide +kernel
theorem d_Explorer_isReady_38 : decode prog_4_method_4_code 38 = .ok (.iload_n 2, 1) := by decide +kernel
theorem d_Explorer_isReady_39 : decode prog_4_method_4_code 39 = .ok (.invokevirtual 72, 3) := by decide +kernel
theorem d_Explorer_isReady_42 : decode prog_4_method_4_code 42 = .ok (.astore 4, 2) := by decide +kernel
theorem d_Explorer_isReady_44 : decode prog_4_method_4_code 44 = .ok (.iload_n 3, 1) := by decide +kernel
theorem d_Explorer_isReady_45 : decode prog_4_method_4_code 45 = .ok (.iconst 2, 1) := by decide +kernel
theorem d_Explorer_isReady_46 : decode prog_4_method_4_code 46 = .ok (.if_icmp .eq 14, 3) := by decide +kernel
theorem d_Explorer_isReady_49 : decode prog_4_method_4_code 49 = .ok (.aload 4, 2) := by decide +kernel
theorem d_Explorer_isReady_51 : decode prog_4_method_4_code 51 = .ok (.getfield 76, 3) := by decide +kernel
theorem d_Explorer_isReady_54 : decode prog_4_method_4_code 54 = .ok (.getstatic 82, 3) := by decide +kernel
theorem d_Explorer_isReady_57 : decode prog_4_method_4_code 57 = .ok (.if_acmp .ne 26, 3) := by decide +kernel
theorem d_Explorer_isReady_60 : decode prog_4_method_4_code 60 = .ok (.aload_n 0, 1) := by decide +kernel
theorem d_Explorer_isReady_61 : decode prog_4_method_4_code 61 = .ok (.getfield 9, 3) := by decide +kernel
theorem d_Explorer_isReady_64 : decode prog_4_method_4_code 64 = .ok (.iload_n 1, 1) := by decide +kernel
theorem d_Explorer_isReady_65 : decode prog_4_method_4_code 65 = .ok (.aload 4, 2) := by decide +kernel
theorem d_Explorer_isReady_67 : decode prog_4_method_4_code 67 = .ok (.getfield 87, 3) := by decide +kernel
theorem d_Explorer_isReady_70 : decode prog_4_method_4_code 70 = .ok (.invokevirtual 39, 3) := by decide +kernel
theorem d_Explorer_isReady_73 : decode prog_4_method_4_code 73 = .ok (.iconst (-1), 1) := by decide +kernel
theorem d_Explorer_isReady_74 : decode prog_4_method_4_code 74 = .ok (.if_icmp .ne 7, 3) := by decide +kernel
theorem d_Explorer_isReady_77 : decode prog_4_method_4_code 77 = .ok (.iconst 1, 1) := by decide +kernel
theorem d_Explorer_isReady_78 : decode prog_4_method_4_code 78 = .ok (.goto 4, 3) := by decide +kernel
theorem d_Explorer_isReady_81 : decode prog_4_method_4_code 81 = .ok (.iconst 0, 1) := by decide +kernel
theorem d_Explorer_isReady_82 : decode prog_4_method_4_code 82 = .ok (.ireturn, 1) := by decide +kernel
theorem d_Explorer_isReady_83 : decode prog_4_method_4_code 83 = .ok (.iconst 1, 1) := by decide +kernel
theorem d_Explorer_isReady_84 : decode prog_4_method_4_code 84 = .ok (.ireturn, 1) := by decide +kernel
def zf_Explorer_isReady_82 (F : Nat)  (t0 : Int32) (σ : zs_S) : Option (Int32 × zs_S) :=
  zq_g (zq_z t0) <|
  some (t0, σ)
def zf_Explorer_isReady_60 (F : Nat)  (x1 : Int32) (x4 : Nat) (σ : zs_S) : Option (Int32 × zs_S) :=
  zq_g (zq_k 0 x4 16) <|
  zq_c (zf_States_cell F x1 (zs_i σ x4 2) σ) fun r15 σ14 =>
  if r15 = ((-1)) then (
    zf_Explorer_isReady_82 F 1 σ14
  ) else (
    zf_Explorer_isReady_82 F 0 σ14
  )
def zf_Explorer_isReady_34 (F : Nat)   (σ : zs_S) : Option (Int32 × zs_S) :=
  some (0, σ)
def zf_Explorer_isReady (F : Nat) (x1 : Int32) (x2 : Int32) (σ : zs_S) : Option (Int32 × zs_S) :=
  zq_c (zf_States_cell F x1 (16 + x2) σ) fun r2 σ1 =>
  zq_c (zf_States_cell F x1 (12 + x2) σ1) fun r5 σ4 =>
  if r5 = ((-1)) then (
    zf_Explorer_isReady_34 F σ4
  ) else (
    if r2 = 1 then (
      zf_Explorer_isReady_34 F σ4
    ) else (
      zq_c (zf_Explorer_nextOf F x1 x2 σ4) fun r8 σ7 =>
      if r2 = 2 then (
        zf_Explorer_isReady_60 F x1 r8 σ7
      ) else (
        zq_g (zq_k 0 r8 16) <|
        zq_q (zs_r σ7 r8 0) fun q11 =>
        zq_g (decide (q11 < 1200)) <|
        if q11 = 1101 then (
          zf_Explorer_isReady_60 F x1 r8 σ7
        ) else (
          some (1, σ7)
        )
      )
    )
  )
set_option maxHeartbeats 4000000 in
set_option maxRecDepth 100000 in
theorem zc_Explorer_isReady {l : Launch} {D : va_G} {cA : Nat → ClassId} {ad : Nat → Nat} {A : Nat → Prop} {F : Nat} {x1 : Int32} {x2 : Int32} {σ : zs_S} {q : Int32 × zs_S} (hJ : zs_J ad) (hf : zf_Explorer_isReady F x1 x2 σ = some q) : Met l y_Explorer_isReady (.code y_Explorer_isReady prog_4_method_4_code 5 (some .boolean) :: zd_ww) { frames := 2, cells := 0, slots := 0, locals := 44 } (va_Pc [.ref (ad 138), .int x1, .int x2] (zs_U 0 D cA ad A σ)) (zs_Qi 0 D cA ad A q) 0 0 A := by
  refine Met.ofW (cc := prog_4_method_4_code) (maxL := 5) (ret := (some .boolean)) (by decide) rfl ?_
  intro p e s m args below meth c s₁ B hml hv
  obtain ⟨hargs, hP, hK, hD, hZ⟩ := hv
  have G : zs_G 0 p s m args c prog_4_method_4_code 5 "ScheduleCheck$Explorer" D cA ad A := ⟨⟨B.exec, B.bytes, hml, findClass_of_methodNamed B.named, fun w h => atoms_spec B.pre w (List.mem_cons_of_mem _ h)⟩, hK, hJ, hZ⟩
  have hw : zs_I 0 D cA ad A s σ s.heap [] := ⟨hP, hD, va_S.rf⟩
  have hx := G.1.1
  have hb := G.1.2.1
  have hown := G.1.2.2.2.1
  have hts := G.1.2.2.2.2
  have hr := B.returns
  have hlocks := B.notSynchronized
  have he : entryFrame m args 5 = F0 m 0 ((lg_sl [.ref (ad 138), .int x1, .int x2] ++ List.replicate (5 - (lg_sl [.ref (ad 138), .int x1, .int x2]).length) Slot.unset).toArray) [] := by rw [hargs]; exact lg_entry_eq m _ 5
  have hl := lv_entry [.ref (ad 138), .int x1, .int x2] (n := 5) (Nat.le_of_ble_eq_true rfl)
  rw [he]
  generalize (lg_sl [.ref (ad 138), .int x1, .int x2] ++ List.replicate (5 - (lg_sl [.ref (ad 138), .int x1, .int x2]).length) Slot.unset).toArray = ls at hl
  have hl : lv_has ls 5 [(0, .ref (ad 138)), (1, .int x1), (2, .int x2)] := hl
  obtain ⟨RR, hR⟩ : ∃ z, z = (headSpec (.code y_Explorer_isReady prog_4_method_4_code 5 (some .boolean) :: zd_ww) { frames := 2, cells := 0, slots := 0, locals := 44 }).room := ⟨_, rfl⟩
  rw [← hR]
  obtain ⟨QQ, hQ⟩ : ∃ z, z = MQ below (zs_Qi 0 D cA ad A q) args s 0 0 A := ⟨_, rfl⟩
  rw [← hQ]
  have hR1 : 2 ≤ RR.frames := by rw [hR]; exact Nat.le_refl _
  have hR2 : 44 ≤ RR.locals := by rw [hR]; exact Nat.le_refl _
  generalize s.heap = H at hw ⊢
  generalize ([] : List Loc) = locs at hw ⊢
  have K82 : ∀ (t0 : Int32) (σ : zs_S) (H : Heap) (locs : List Loc) (ls : Array Slot), zf_Explorer_isReady_82 F t0 σ = some q → zs_I 0 D cA ad A s σ H locs → lv_has ls 5 [] → W p l e RR s m args below meth c H locs 0 0 QQ (F0 m 82 ls [.int t0]) := by
    intro  t0 σ H locs ls hf hw hl
    unfold zf_Explorer_isReady_82 at hf
    obtain ⟨hz, hf⟩ := zq_gs hf
    exact zr_zret G hw hr hlocks hz hf hQ d_Explorer_isReady_82
  have K60 : ∀ (x1 : Int32) (x4 : Nat) (σ : zs_S) (H : Heap) (locs : List Loc) (ls : Array Slot), zf_Explorer_isReady_60 F x1 x4 σ = some q → zs_I 0 D cA ad A s σ H locs → lv_has ls 5 [(0, .ref (ad 138)), (1, .int x1), (4, .ref (ad x4))] → W p l e RR s m args below meth c H locs 0 0 QQ (F0 m 60 ls []) := by
    intro  x1 x4 σ H locs ls hf hw hl
    unfold zf_Explorer_isReady_60 at hf
    refine lv_aload_n hx hb d_Explorer_isReady_60 rfl (lv_at hl 0 rfl) ?_
    refine zr_get (ci := 4) G hw 138 0 zi_4 rfl rfl rfl (by decide) zm_143 (fun _ h => h) (v := .ref (ad 10)) rfl d_Explorer_isReady_61 ?_
    refine lv_iload_n hx hb d_Explorer_isReady_64 rfl (lv_at hl 1 rfl) ?_
    refine lv_aload hx hb d_Explorer_isReady_65 (lv_at hl 2 rfl) ?_
    obtain ⟨hs13, hf⟩ := zq_gs hf
    have hs13 := zq_ks hs13
    refine zr_get (ci := 6) G hw x4 2 zi_6 hs13 rfl rfl (by decide) zm_155 (fun _ h => h) (v := .int (zs_i σ x4 2)) rfl d_Explorer_isReady_67 ?_
    obtain ⟨r15, σ14, hc16, hf⟩ := zq_cs hf
    refine zr_ci hw (zr_runV (rest := []) (ci := 3) (o := 10) G hw [.int x1, .int (zs_i σ x4 2)] (zc_States_cell hJ hc16) (cwV 2 hts (zs_gV zm_145 zm_146 zm_147 zm_39 zm_144) rfl rfl rfl (by decide +kernel) ⟨Nat.le_trans (by decide) hR1, Nat.le_trans (by decide) hR2⟩) rfl rfl rfl hl.1 (Nat.le_of_ble_eq_true rfl) d_Explorer_isReady_70 ⟨Nat.zero_le _, Nat.zero_le _⟩) (fun H locs hw => ?_)
    refine lv_iconst (v := (-1)) hx hb d_Explorer_isReady_73 (by decide) ?_
    refine lv_icmp_ne hx hb d_Explorer_isReady_74 (tgt := 81) rfl (fun hc => ?_) (fun hc => ?_)
    · have hf := (if_neg hc).symm.trans hf
      refine lv_iconst (v := 0) hx hb d_Explorer_isReady_81 (by decide) ?_
      exact K82 0 σ14 H locs ls hf hw (lv_sub hl [] rfl)
    · have hf := (if_pos hc).symm.trans hf
      refine lv_iconst (v := 1) hx hb d_Explorer_isReady_77 (by decide) ?_
      refine lv_goto hx hb d_Explorer_isReady_78 (tgt := 82) rfl ?_
      exact K82 1 σ14 H locs ls hf hw (lv_sub hl [] rfl)
  have K34 : ∀ (σ : zs_S) (H : Heap) (locs : List Loc) (ls : Array Slot), zf_Explorer_isReady_34 F σ = some q → zs_I 0 D cA ad A s σ H locs → lv_has ls 5 [] → W p l e RR s m args below meth c H locs 0 0 QQ (F0 m 34 ls []) := by
    intro   σ H locs ls hf hw hl
    unfold zf_Explorer_isReady_34 at hf
    refine lv_iconst (v := 0) hx hb d_Explorer_isReady_34 (by decide) ?_
    exact zr_zret G hw hr hlocks (by decide) hf hQ d_Explorer_isReady_35
  unfold zf_Explorer_isReady at hf
  refine lv_aload_n hx hb d_Explorer_isReady_0 rfl (lv_at hl 0 rfl) ?_
  refine zr_get (ci := 4) G hw 138 0 zi_4 rfl rfl rfl (by decide) zm_143 (fun _ h => h) (v := .ref (ad 10)) rfl d_Explorer_isReady_1 ?_
  refine lv_iload_n hx hb d_Explorer_isReady_4 rfl (lv_at hl 1 rfl) ?_
  refine lv_bipush (v := 16) hx hb d_Explorer_isReady_5 (by decide) ?_
  refine lv_iload_n hx hb d_Explorer_isReady_7 rfl (lv_at hl 2 rfl) ?_
  refine lv_iadd hx hb d_Explorer_isReady_8 ?_
  obtain ⟨r2, σ1, hc3, hf⟩ := zq_cs hf
  refine zr_ci hw (zr_runV (rest := []) (ci := 3) (o := 10) G hw [.int x1, .int (16 + x2)] (zc_States_cell hJ hc3) (cwV 2 hts (zs_gV zm_145 zm_146 zm_147 zm_39 zm_144) rfl rfl rfl (by decide +kernel) ⟨Nat.le_trans (by decide) hR1, Nat.le_trans (by decide) hR2⟩) rfl rfl rfl hl.1 (Nat.le_of_ble_eq_true rfl) d_Explorer_isReady_9 ⟨Nat.zero_le _, Nat.zero_le _⟩) (fun H locs hw => ?_)
  refine lv_istore_n hx hb d_Explorer_isReady_12 rfl hl (by decide) rfl (fun ls hl => ?_)
  have hl : lv_has ls 5 [(3, .int r2), (0, .ref (ad 138)), (1, .int x1), (2, .int x2)] := hl
  refine lv_aload_n hx hb d_Explorer_isReady_13 rfl (lv_at hl 1 rfl) ?_
  refine zr_get (ci := 4) G hw 138 0 zi_4 rfl rfl rfl (by decide) zm_143 (fun _ h => h) (v := .ref (ad 10)) rfl d_Explorer_isReady_14 ?_
  refine lv_iload_n hx hb d_Explorer_isReady_17 rfl (lv_at hl 2 rfl) ?_
  refine lv_bipush (v := 12) hx hb d_Explorer_isReady_18 (by decide) ?_
  refine lv_iload_n hx hb d_Explorer_isReady_20 rfl (lv_at hl 3 rfl) ?_
  refine lv_iadd hx hb d_Explorer_isReady_21 ?_
  obtain ⟨r5, σ4, hc6, hf⟩ := zq_cs hf
  refine zr_ci hw (zr_runV (rest := []) (ci := 3) (o := 10) G hw [.int x1, .int (12 + x2)] (zc_States_cell hJ hc6) (cwV 2 hts (zs_gV zm_145 zm_146 zm_147 zm_39 zm_144) rfl rfl rfl (by decide +kernel) ⟨Nat.le_trans (by decide) hR1, Nat.le_trans (by decide) hR2⟩) rfl rfl rfl hl.1 (Nat.le_of_ble_eq_true rfl) d_Explorer_isReady_22 ⟨Nat.zero_le _, Nat.zero_le _⟩) (fun H locs hw => ?_)
  refine lv_iconst (v := (-1)) hx hb d_Explorer_isReady_25 (by decide) ?_
  refine lv_icmp_eq hx hb d_Explorer_isReady_26 (tgt := 34) rfl (fun hc => ?_) (fun hc => ?_)
  · have hf := (if_pos hc).symm.trans hf
    exact K34 σ4 H locs ls hf hw (lv_sub hl [] rfl)
  · have hf := (if_neg hc).symm.trans hf
    refine lv_iload_n hx hb d_Explorer_isReady_29 rfl (lv_at hl 0 rfl) ?_
    refine lv_iconst (v := 1) hx hb d_Explorer_isReady_30 (by decide) ?_
    refine lv_icmp_ne hx hb d_Explorer_isReady_31 (tgt := 36) rfl (fun hc => ?_) (fun hc => ?_)
    · have hf := (if_neg hc).symm.trans hf
      refine lv_aload_n hx hb d_Explorer_isReady_36 rfl (lv_at hl 1 rfl) ?_
      refine lv_iload_n hx hb d_Explorer_isReady_37 rfl (lv_at hl 2 rfl) ?_
      refine lv_iload_n hx hb d_Explorer_isReady_38 rfl (lv_at hl 3 rfl) ?_
      obtain ⟨r8, σ7, hc9, hf⟩ := zq_cs hf
      refine zr_cr hw (zr_runV (rest := []) (ci := 4) (o := 138) G hw [.int x1, .int x2] (zc_Explorer_nextOf hJ hc9) (cwV 2 hts (zs_gV zm_149 zm_150 zm_151 zm_152 zm_148) rfl rfl rfl (by decide +kernel) ⟨Nat.le_trans (by decide) hR1, Nat.le_trans (by decide) hR2⟩) rfl rfl rfl hl.1 (Nat.le_of_ble_eq_true rfl) d_Explorer_isReady_39 ⟨Nat.zero_le _, Nat.zero_le _⟩) (fun H locs hw => ?_)
      refine lv_astore hx hb d_Explorer_isReady_42 hl (by decide) rfl (fun ls hl => ?_)
      have hl : lv_has ls 5 [(4, .ref (ad r8)), (3, .int r2), (0, .ref (ad 138)), (1, .int x1), (2, .int x2)] := hl
      refine lv_iload_n hx hb d_Explorer_isReady_44 rfl (lv_at hl 1 rfl) ?_
      refine lv_iconst (v := 2) hx hb d_Explorer_isReady_45 (by decide) ?_
      refine lv_icmp_eq hx hb d_Explorer_isReady_46 (tgt := 60) rfl (fun hc => ?_) (fun hc => ?_)
      · have hf := (if_pos hc).symm.trans hf
        exact K60 x1 r8 σ7 H locs ls hf hw (lv_sub hl [2, 3, 0] rfl)
      · have hf := (if_neg hc).symm.trans hf
        refine lv_aload hx hb d_Explorer_isReady_49 (lv_at hl 0 rfl) ?_
        obtain ⟨hs10, hf⟩ := zq_gs hf
        have hs10 := zq_ks hs10
        obtain ⟨q11, e_q11, h_q11, hf⟩ := zq_qs hf
        refine zr_get (ci := 6) G hw r8 0 zi_6 hs10 rfl rfl (by decide) zm_153 (fun _ h => h) (v := .ref (ad q11)) (zs_fr rfl e_q11 h_q11) d_Explorer_isReady_51 ?_
        refine va_gets (C := "ScheduleCheck$Kind") (n := "TAKE") (d := "LScheduleCheck$Kind;") (v := .ref (ad 1101)) hx hb ((G.2.2.2.1 rfl).2.2.1.1 1 (by decide)).1 hw.2.2 hown (hts _ zm_154) (fun _ h => h) d_Explorer_isReady_54 ?_
        obtain ⟨hm12, hf⟩ := zq_gs hf
        refine zr_ane G (of_decide_eq_true hm12) (by decide) d_Explorer_isReady_57 (tgt := 83) rfl (fun hc => ?_) (fun hc => ?_)
        · have hf := (if_neg hc).symm.trans hf
          refine lv_iconst (v := 1) hx hb d_Explorer_isReady_83 (by decide) ?_
          exact zr_zret G hw hr hlocks (by decide) hf hQ d_Explorer_isReady_84
        · have hf := (if_pos hc).symm.trans hf
          exact K60 x1 r8 σ7 H locs ls hf hw (lv_sub hl [2, 3, 0] rfl)
    · have hf := (if_pos hc).symm.trans hf
      exact K34 σ4 H locs ls hf hw (lv_sub hl [] rfl)
/-! ScheduleCheck$Explorer.resultIn -/
def y_Explorer_resultIn : MethodName := ⟨"ScheduleCheck$Explorer","resultIn","(ILScheduleCheck$Statement;)I"⟩
theorem d_Explorer_resultIn_0 : decode prog_4_method_8_code 0 = .ok (.aload_n 0, 1) := by decide +kernel
theorem d_Explorer_resultIn_1 : decode prog_4_method_8_code 1 = .ok (.getfield 15, 3) := by decide +kernel
theorem d_Explorer_resultIn_4 : decode prog_4_method_8_code 4 = .ok (.getfield 140, 3) := by decide +kernel
theorem d_Explorer_resultIn_7 : decode prog_4_method_8_code 7 = .ok (.aload_n 2, 1) := by decide +kernel
theorem d_Explorer_resultIn_8 : decode prog_4_method_8_code 8 = .ok (.getfield 144, 3) := by decide +kernel
theorem d_Explorer_resultIn_11 : decode prog_4_method_8_code 11 = .ok (.aload_n 2, 1) := by decide +kernel
theorem d_Explorer_resultIn_12 : decode prog_4_method_8_code 12 = .ok (.getfield 147, 3) := by decide +kernel
theorem d_Explorer_resultIn_15 : decode prog_4_method_8_code 15 = .ok (.aload_n 0, 1) := by decide +kernel
theorem d_Explorer_resultIn_16 : decode prog_4_method_8_code 16 = .ok (.getfield 9, 3) := by decide +kernel
theorem d_Explorer_resultIn_19 : decode prog_4_method_8_code 19 = .ok (.getfield 150, 3) := by decide +kernel
theorem d_Explorer_resultIn_22 : decode prog_4_method_8_code 22 = .ok (.iload_n 1, 1) := by decide +kernel
theorem d_Explorer_resultIn_23 : decode prog_4_method_8_code 23 = .ok (.bipush 34, 2) := by decide +kernel
theorem d_Explorer_resultIn_25 : decode prog_4_method_8_code 25 = .ok (.imul, 1) := by decide +kernel
theorem d_Explorer_resultIn_26 : decode prog_4_method_8_code 26 = .ok (.invokevirtual 154, 3) := by decide +kernel
theorem d_Explorer_resultIn_29 : decode prog_4_method_8_code 29 = .ok (.ireturn, 1) := by decide +kernel
def zf_Explorer_resultIn (F : Nat) (x1 : Int32) (x2 : Nat) (σ : zs_S) : Option (Int32 × zs_S) :=
  zq_q (zs_r σ 138 1) fun q1 =>
  zq_g (zq_k 0 q1 15) <|
  zq_q (zd_rf 0 q1 8) fun q3 =>
  zq_g (zq_k 0 x2 16) <|
  zq_g (zq_k 0 q3 17) <|
  zq_c (zf_Code_result F q3 (zs_i σ x2 3) (zs_i σ x2 4) 11 (x1 * 34) σ) fun r6 σ5 =>
  some (r6, σ5)
set_option maxHeartbeats 4000000 in
set_option maxRecDepth 100000 in
theorem zc_Explorer_resultIn {l : Launch} {D : va_G} {cA : Nat → ClassId} {ad : Nat → Nat} {A : Nat → Prop} {F : Nat} {x1 : Int32} {x2 : Nat} {σ : zs_S} {q : Int32 × zs_S} (hJ : zs_J ad) (hf : zf_Explorer_resultIn F x1 x2 σ = some q) : Met l y_Explorer_resultIn (.code y_Explorer_resultIn prog_4_method_8_code 3 (some .int) :: zd_ww) { frames := 3, cells := 0, slots := 0, locals := 69 } (va_Pc [.ref (ad 138), .int x1, .ref (ad x2)] (zs_U 0 D cA ad A σ)) (zs_Qi 0 D cA ad A q) 0 0 A := by
  refine Met.ofW (cc := prog_4_method_8_code) (maxL := 3) (ret := (some .int)) (by decide) rfl ?_
  intro p e s m args below meth c s₁ B hml hv
  obtain ⟨hargs, hP, hK, hD, hZ⟩ := hv
  have G : zs_G 0 p s m args c prog_4_method_8_code 3 "ScheduleCheck$Explorer" D cA ad A := ⟨⟨B.exec, B.bytes, hml, findClass_of_methodNamed B.named, fun w h => atoms_spec B.pre w (List.mem_cons_of_mem _ h)⟩, hK, hJ, hZ⟩
  have hw : zs_I 0 D cA ad A s σ s.heap [] := ⟨hP, hD, va_S.rf⟩
  have hx := G.1.1
  have hb := G.1.2.1
  have hown := G.1.2.2.2.1
  have hts := G.1.2.2.2.2
  have hr := B.returns
  have hlocks := B.notSynchronized
  have he : entryFrame m args 3 = F0 m 0 ((lg_sl [.ref (ad 138), .int x1, .ref (ad x2)] ++ List.replicate (3 - (lg_sl [.ref (ad 138), .int x1, .ref (ad x2)]).length) Slot.unset).toArray) [] := by rw [hargs]; exact lg_entry_eq m _ 3
  have hl := lv_entry [.ref (ad 138), .int x1, .ref (ad x2)] (n := 3) (Nat.le_of_ble_eq_true rfl)
  rw [he]
  generalize (lg_sl [.ref (ad 138), .int x1, .ref (ad x2)] ++ List.replicate (3 - (lg_sl [.ref (ad 138), .int x1, .ref (ad x2)]).length) Slot.unset).toArray = ls at hl
  have hl : lv_has ls 3 [(0, .ref (ad 138)), (1, .int x1), (2, .ref (ad x2))] := hl
  obtain ⟨RR, hR⟩ : ∃ z, z = (headSpec (.code y_Explorer_resultIn prog_4_method_8_code 3 (some .int) :: zd_ww) { frames := 3, cells := 0, slots := 0, locals := 69 }).room := ⟨_, rfl⟩
  rw [← hR]
  obtain ⟨QQ, hQ⟩ : ∃ z, z = MQ below (zs_Qi 0 D cA ad A q) args s 0 0 A := ⟨_, rfl⟩
  rw [← hQ]
  have hR1 : 3 ≤ RR.frames := by rw [hR]; exact Nat.le_refl _
  have hR2 : 69 ≤ RR.locals := by rw [hR]; exact Nat.le_refl _
  generalize s.heap = H at hw ⊢
  generalize ([] : List Loc) = locs at hw ⊢
  unfold zf_Explorer_resultIn at hf
  refine lv_aload_n hx hb d_Explorer_resultIn_0 rfl (lv_at hl 0 rfl) ?_
  obtain ⟨q1, e_q1, h_q1, hf⟩ := zq_qs hf
  refine zr_get (ci := 4) G hw 138 1 zi_4 rfl rfl rfl (by decide) zm_141 (fun _ h => h) (v := .ref (ad q1)) (zs_fr rfl e_q1 h_q1) d_Explorer_resultIn_1 ?_
  obtain ⟨hs2, hf⟩ := zq_gs hf
  have hs2 := zq_ks hs2
  obtain ⟨q3, e_q3, h_q3, hf⟩ := zq_qs hf
  refine zr_get (ci := 5) G hw q1 8 zi_5 hs2 rfl rfl (by decide) zm_156 (fun _ h => h) (v := .ref (ad q3)) (zs_fs rfl e_q3 h_q3) d_Explorer_resultIn_4 ?_
  refine lv_aload_n hx hb d_Explorer_resultIn_7 rfl (lv_at hl 2 rfl) ?_
  obtain ⟨hs4, hf⟩ := zq_gs hf
  have hs4 := zq_ks hs4
  refine zr_get (ci := 6) G hw x2 3 zi_6 hs4 rfl rfl (by decide) zm_157 (fun _ h => h) (v := .int (zs_i σ x2 3)) rfl d_Explorer_resultIn_8 ?_
  refine lv_aload_n hx hb d_Explorer_resultIn_11 rfl (lv_at hl 2 rfl) ?_
  refine zr_get (ci := 6) G hw x2 4 zi_6 hs4 rfl rfl (by decide) zm_158 (fun _ h => h) (v := .int (zs_i σ x2 4)) rfl d_Explorer_resultIn_12 ?_
  refine lv_aload_n hx hb d_Explorer_resultIn_15 rfl (lv_at hl 0 rfl) ?_
  refine zr_get (ci := 4) G hw 138 0 zi_4 rfl rfl rfl (by decide) zm_143 (fun _ h => h) (v := .ref (ad 10)) rfl d_Explorer_resultIn_16 ?_
  refine zr_get (ci := 3) G hw 10 0 zi_3 rfl rfl rfl (by decide) zm_159 (fun _ h => h) (v := .ref (ad 11)) rfl d_Explorer_resultIn_19 ?_
  refine lv_iload_n hx hb d_Explorer_resultIn_22 rfl (lv_at hl 1 rfl) ?_
  refine lv_bipush (v := 34) hx hb d_Explorer_resultIn_23 (by decide) ?_
  refine lv_imul hx hb d_Explorer_resultIn_25 ?_
  obtain ⟨hs8, hf⟩ := zq_gs hf
  have hs8 := zq_ks hs8
  obtain ⟨r6, σ5, hc7, hf⟩ := zq_cs hf
  refine zr_ci hw (zr_runV (rest := []) (ci := 7) (o := q3) G hw [.int (zs_i σ x2 3), .int (zs_i σ x2 4), .ref (ad 11), .int (x1 * 34)] (zc_Code_result hJ hc7) (cwV 4 hts (zs_gV zm_161 zm_162 zm_163 zm_132 zm_160) rfl rfl rfl (by decide +kernel) ⟨Nat.le_trans (by decide) hR1, Nat.le_trans (by decide) hR2⟩) hs8 rfl rfl hl.1 (Nat.le_of_ble_eq_true rfl) d_Explorer_resultIn_26 ⟨Nat.zero_le _, Nat.zero_le _⟩) (fun H locs hw => ?_)
  exact zr_iret G hw hr hlocks hf hQ d_Explorer_resultIn_29
/-! ScheduleCheck$Explorer.go -/
def y_Explorer_go : MethodName := ⟨"ScheduleCheck$Explorer","go","(III)V"⟩
theorem d_Explorer_go_0 : decode prog_4_method_9_code 0 = .ok (.aload_n 0, 1) := by decide +kernel
theorem d_Explorer_go_1 : decode prog_4_method_9_code 1 = .ok (.getfield 9, 3) := by decide +kernel
theorem d_Explorer_go_4 : decode prog_4_method_9_code 4 = .ok (.bipush 12, 2) := by decide +kernel
theorem d_Explorer_go_6 : decode prog_4_method_9_code 6 = .ok (.iload_n 2, 1) := by decide +kernel
theorem d_Explorer_go_7 : decode prog_4_method_9_code 7 = .ok (.iadd, 1) := by decide +kernel
theorem d_Explorer_go_8 : decode prog_4_method_9_code 8 = .ok (.iload_n 3, 1) := by decide +kernel
theorem d_Explorer_go_9 : decode prog_4_method_9_code 9 = .ok (.invokevirtual 59, 3) := by decide +kernel
theorem d_Explorer_go_12 : decode prog_4_method_9_code 12 = .ok (.aload_n 0, 1) := by decide +kernel
theorem d_Explorer_go_13 : decode prog_4_method_9_code 13 = .ok (.getfield 9, 3) := by decide +kernel
theorem d_Explorer_go_16 : decode prog_4_method_9_code 16 = .ok (.iload_n 1, 1) := by decide +kernel
theorem d_Explorer_go_17 : decode prog_4_method_9_code 17 = .ok (.iload_n 2, 1) := by decide +kernel
theorem d_Explorer_go_18 : decode prog_4_method_9_code 18 = .ok (.invokevirtual 27, 3) := by decide +kernel
theorem d_Explorer_go_21 : decode prog_4_method_9_code 21 = .ok (.return_, 1) := by decide +kernel
def zf_Explorer_go (F : Nat) (x1 : Int32) (x2 : Int32) (x3 : Int32) (σ : zs_S) : Option (zs_S) :=
  zq_d (zf_States_set F (12 + x2) x3 σ) fun σ1 =>
  zq_d (zf_States_keep F x1 x2 σ1) fun σ4 =>
  some σ4
set_option maxHeartbeats 4000000 in
set_option maxRecDepth 100000 in
theorem zc_Explorer_go {l : Launch} {D : va_G} {cA : Nat → ClassId} {ad : Nat → Nat} {A : Nat → Prop} {F : Nat} {x1 : Int32} {x2 : Int32} {x3 : Int32} {σ : zs_S} {q : zs_S} (hJ : zs_J ad) (hf : zf_Explorer_go F x1 x2 x3 σ = some q) : Met l y_Explorer_go (.code y_Explorer_go prog_4_method_9_code 4 none :: zd_ww) { frames := 3, cells := 0, slots := 0, locals := 69 } (va_Pc [.ref (ad 138), .int x1, .int x2, .int x3] (zs_U 0 D cA ad A σ)) (zs_Qv 0 D cA ad A q) 0 0 A := by
  refine Met.ofW (cc := prog_4_method_9_code) (maxL := 4) (ret := none) (by decide) rfl ?_
  intro p e s m args below meth c s₁ B hml hv
  obtain ⟨hargs, hP, hK, hD, hZ⟩ := hv
  have G : zs_G 0 p s m args c prog_4_method_9_code 4 "ScheduleCheck$Explorer" D cA ad A := ⟨⟨B.exec, B.bytes, hml, findClass_of_methodNamed B.named, fun w h => atoms_spec B.pre w (List.mem_cons_of_mem _ h)⟩, hK, hJ, hZ⟩
  have hw : zs_I 0 D cA ad A s σ s.heap [] := ⟨hP, hD, va_S.rf⟩
  have hx := G.1.1
  have hb := G.1.2.1
  have hown := G.1.2.2.2.1
  have hts := G.1.2.2.2.2
  have hr := B.returns
  have hlocks := B.notSynchronized
  have he : entryFrame m args 4 = F0 m 0 ((lg_sl [.ref (ad 138), .int x1, .int x2, .int x3] ++ List.replicate (4 - (lg_sl [.ref (ad 138), .int x1, .int x2, .int x3]).length) Slot.unset).toArray) [] := by rw [hargs]; exact lg_entry_eq m _ 4
  have hl := lv_entry [.ref (ad 138), .int x1, .int x2, .int x3] (n := 4) (Nat.le_of_ble_eq_true rfl)
  rw [he]
  generalize (lg_sl [.ref (ad 138), .int x1, .int x2, .int x3] ++ List.replicate (4 - (lg_sl [.ref (ad 138), .int x1, .int x2, .int x3]).length) Slot.unset).toArray = ls at hl
  have hl : lv_has ls 4 [(0, .ref (ad 138)), (1, .int x1), (2, .int x2), (3, .int x3)] := hl
  obtain ⟨RR, hR⟩ : ∃ z, z = (headSpec (.code y_Explorer_go prog_4_method_9_code 4 none :: zd_ww) { frames := 3, cells := 0, slots := 0, locals := 69 }).room := ⟨_, rfl⟩
  rw [← hR]
  obtain ⟨QQ, hQ⟩ : ∃ z, z = MQ below (zs_Qv 0 D cA ad A q) args s 0 0 A := ⟨_, rfl⟩
  rw [← hQ]
  have hR1 : 3 ≤ RR.frames := by rw [hR]; exact Nat.le_refl _
  have hR2 : 69 ≤ RR.locals := by rw [hR]; exact Nat.le_refl _
  generalize s.heap = H at hw ⊢
  generalize ([] : List Loc) = locs at hw ⊢
  unfold zf_Explorer_go at hf
  refine lv_aload_n hx hb d_Explorer_go_0 rfl (lv_at hl 0 rfl) ?_
  refine zr_get (ci := 4) G hw 138 0 zi_4 rfl rfl rfl (by decide) zm_143 (fun _ h => h) (v := .ref (ad 10)) rfl d_Explorer_go_1 ?_
  refine lv_bipush (v := 12) hx hb d_Explorer_go_4 (by decide) ?_
  refine lv_iload_n hx hb d_Explorer_go_6 rfl (lv_at hl 2 rfl) ?_
  refine lv_iadd hx hb d_Explorer_go_7 ?_
  refine lv_iload_n hx hb d_Explorer_go_8 rfl (lv_at hl 3 rfl) ?_
  obtain ⟨σ1, hc3, hf⟩ := zq_ds hf
  refine zr_cv hw (zr_runV (rest := []) (ci := 3) (o := 10) G hw [.int (12 + x2), .int x3] (zc_States_set hJ hc3) (cwV 2 hts (zs_gV zm_165 zm_166 zm_167 zm_39 zm_164) rfl rfl rfl (by decide +kernel) ⟨Nat.le_trans (by decide) hR1, Nat.le_trans (by decide) hR2⟩) rfl rfl rfl hl.1 (Nat.le_of_ble_eq_true rfl) d_Explorer_go_9 ⟨Nat.zero_le _, Nat.zero_le _⟩) (fun H locs hw => ?_)
  refine lv_aload_n hx hb d_Explorer_go_12 rfl (lv_at hl 0 rfl) ?_
  refine zr_get (ci := 4) G hw 138 0 zi_4 rfl rfl rfl (by decide) zm_143 (fun _ h => h) (v := .ref (ad 10)) rfl d_Explorer_go_13 ?_
  refine lv_iload_n hx hb d_Explorer_go_16 rfl (lv_at hl 1 rfl) ?_
  refine lv_iload_n hx hb d_Explorer_go_17 rfl (lv_at hl 2 rfl) ?_
  obtain ⟨σ4, hc6, hf⟩ := zq_ds hf
  refine zr_cv hw (zr_runV (rest := []) (ci := 3) (o := 10) G hw [.int x1, .int x2] (zc_States_keep hJ hc6) (cwV 2 hts (zs_gV zm_169 zm_170 zm_171 zm_39 zm_168) rfl rfl rfl (by decide +kernel) ⟨Nat.le_trans (by decide) hR1, Nat.le_trans (by decide) hR2⟩) rfl rfl rfl hl.1 (Nat.le_of_ble_eq_true rfl) d_Explorer_go_18 ⟨Nat.zero_le _, Nat.zero_le _⟩) (fun H locs hw => ?_)
  exact zr_vret G hw hr hlocks hf hQ d_Explorer_go_21
/-! ScheduleCheck$Explorer.err -/
def y_Explorer_err : MethodName := ⟨"ScheduleCheck$Explorer","err","(III)V"⟩
theorem d_Explorer_err_0 : decode prog_4_method_10_code 0 = .ok (.aload_n 0, 1) := by decide +kernel
theorem d_Explorer_err_1 : decode prog_4_method_10_code 1 = .ok (.getfield 9, 3) := by decide +kernel
theorem d_Explorer_err_4 : decode prog_4_method_10_code 4 = .ok (.bipush 32, 2) := by decide +kernel
theorem d_Explorer_err_6 : decode prog_4_method_10_code 6 = .ok (.iload_n 3, 1) := by decide +kernel
theorem d_Explorer_err_7 : decode prog_4_method_10_code 7 = .ok (.invokevirtual 59, 3) := by decide +kernel
theorem d_Explorer_err_10 : decode prog_4_method_10_code 10 = .ok (.aload_n 0, 1) := by decide +kernel
theorem d_Explorer_err_11 : decode prog_4_method_10_code 11 = .ok (.getfield 9, 3) := by decide +kernel
theorem d_Explorer_err_14 : decode prog_4_method_10_code 14 = .ok (.bipush 33, 2) := by decide +kernel
theorem d_Explorer_err_16 : decode prog_4_method_10_code 16 = .ok (.iload_n 2, 1) := by decide +kernel
theorem d_Explorer_err_17 : decode prog_4_method_10_code 17 = .ok (.invokevirtual 59, 3) := by decide +kernel
theorem d_Explorer_err_20 : decode prog_4_method_10_code 20 = .ok (.aload_n 0, 1) := by decide +kernel
theorem d_Explorer_err_21 : decode prog_4_method_10_code 21 = .ok (.getfield 9, 3) := by decide +kernel
theorem d_Explorer_err_24 : decode prog_4_method_10_code 24 = .ok (.iload_n 1, 1) := by decide +kernel
theorem d_Explorer_err_25 : decode prog_4_method_10_code 25 = .ok (.iload_n 2, 1) := by decide +kernel
theorem d_Explorer_err_26 : decode prog_4_method_10_code 26 = .ok (.invokevirtual 27, 3) := by decide +kernel
theorem d_Explorer_err_29 : decode prog_4_method_10_code 29 = .ok (.return_, 1) := by decide +kernel
def zf_Explorer_err (F : Nat) (x1 : Int32) (x2 : Int32) (x3 : Int32) (σ : zs_S) : Option (zs_S) :=
  zq_d (zf_States_set F 32 x3 σ) fun σ1 =>
  zq_d (zf_States_set F 33 x2 σ1) fun σ4 =>
  zq_d (zf_States_keep F x1 x2 σ4) fun σ7 =>
  some σ7
set_option maxHeartbeats 4000000 in
set_option maxRecDepth 100000 in
theorem zc_Explorer_err {l : Launch} {D : va_G} {cA : Nat → ClassId} {ad : Nat → Nat} {A : Nat → Prop} {F : Nat} {x1 : Int32} {x2 : Int32} {x3 : Int32} {σ : zs_S} {q : zs_S} (hJ : zs_J ad) (hf : zf_Explorer_err F x1 x2 x3 σ = some q) : Met l y_Explorer_err (.code y_Explorer_err prog_4_method_10_code 4 none :: zd_ww) { frames := 3, cells := 0, slots := 0, locals := 69 } (va_Pc [.ref (ad 138), .int x1, .int x2, .int x3] (zs_U 0 D cA ad A σ)) (zs_Qv 0 D cA ad A q) 0 0 A := by
  refine Met.ofW (cc := prog_4_method_10_code) (maxL := 4) (ret := none) (by decide) rfl ?_
  intro p e s m args below meth c s₁ B hml hv
  obtain ⟨hargs, hP, hK, hD, hZ⟩ := hv
  have G : zs_G 0 p s m args c prog_4_method_10_code 4 "ScheduleCheck$Explorer" D cA ad A := ⟨⟨B.exec, B.bytes, hml, findClass_of_methodNamed B.named, fun w h => atoms_spec B.pre w (List.mem_cons_of_mem _ h)⟩, hK, hJ, hZ⟩
  have hw : zs_I 0 D cA ad A s σ s.heap [] := ⟨hP, hD, va_S.rf⟩
  have hx := G.1.1
  have hb := G.1.2.1
  have hown := G.1.2.2.2.1
  have hts := G.1.2.2.2.2
  have hr := B.returns
  have hlocks := B.notSynchronized
  have he : entryFrame m args 4 = F0 m 0 ((lg_sl [.ref (ad 138), .int x1, .int x2, .int x3] ++ List.replicate (4 - (lg_sl [.ref (ad 138), .int x1, .int x2, .int x3]).length) Slot.unset).toArray) [] := by rw [hargs]; exact lg_entry_eq m _ 4
  have hl := lv_entry [.ref (ad 138), .int x1, .int x2, .int x3] (n := 4) (Nat.le_of_ble_eq_true rfl)
  rw [he]
  generalize (lg_sl [.ref (ad 138), .int x1, .int x2, .int x3] ++ List.replicate (4 - (lg_sl [.ref (ad 138), .int x1, .int x2, .int x3]).length) Slot.unset).toArray = ls at hl
  have hl : lv_has ls 4 [(0, .ref (ad 138)), (1, .int x1), (2, .int x2), (3, .int x3)] := hl
  obtain ⟨RR, hR⟩ : ∃ z, z = (headSpec (.code y_Explorer_err prog_4_method_10_code 4 none :: zd_ww) { frames := 3, cells := 0, slots := 0, locals := 69 }).room := ⟨_, rfl⟩
  rw [← hR]
  obtain ⟨QQ, hQ⟩ : ∃ z, z = MQ below (zs_Qv 0 D cA ad A q) args s 0 0 A := ⟨_, rfl⟩
  rw [← hQ]
  have hR1 : 3 ≤ RR.frames := by rw [hR]; exact Nat.le_refl _
  have hR2 : 69 ≤ RR.locals := by rw [hR]; exact Nat.le_refl _
  generalize s.heap = H at hw ⊢
  generalize ([] : List Loc) = locs at hw ⊢
  unfold zf_Explorer_err at hf
  refine lv_aload_n hx hb d_Explorer_err_0 rfl (lv_at hl 0 rfl) ?_
  refine zr_get (ci := 4) G hw 138 0 zi_4 rfl rfl rfl (by decide) zm_143 (fun _ h => h) (v := .ref (ad 10)) rfl d_Explorer_err_1 ?_
  refine lv_bipush (v := 32) hx hb d_Explorer_err_4 (by decide) ?_
  refine lv_iload_n hx hb d_Explorer_err_6 rfl (lv_at hl 3 rfl) ?_
  obtain ⟨σ1, hc3, hf⟩ := zq_ds hf
  refine zr_cv hw (zr_runV (rest := []) (ci := 3) (o := 10) G hw [.int 32, .int x3] (zc_States_set hJ hc3) (cwV 2 hts (zs_gV zm_165 zm_166 zm_167 zm_39 zm_164) rfl rfl rfl (by decide +kernel) ⟨Nat.le_trans (by decide) hR1, Nat.le_trans (by decide) hR2⟩) rfl rfl rfl hl.1 (Nat.le_of_ble_eq_true rfl) d_Explorer_err_7 ⟨Nat.zero_le _, Nat.zero_le _⟩) (fun H locs hw => ?_)
  refine lv_aload_n hx hb d_Explorer_err_10 rfl (lv_at hl 0 rfl) ?_
  refine zr_get (ci := 4) G hw 138 0 zi_4 rfl rfl rfl (by decide) zm_143 (fun _ h => h) (v := .ref (ad 10)) rfl d_Explorer_err_11 ?_
  refine lv_bipush (v := 33) hx hb d_Explorer_err_14 (by decide) ?_
  refine lv_iload_n hx hb d_Explorer_err_16 rfl (lv_at hl 2 rfl) ?_
  obtain ⟨σ4, hc6, hf⟩ := zq_ds hf
  refine zr_cv hw (zr_runV (rest := []) (ci := 3) (o := 10) G hw [.int 33, .int x2] (zc_States_set hJ hc6) (cwV 2 hts (zs_gV zm_165 zm_166 zm_167 zm_39 zm_164) rfl rfl rfl (by decide +kernel) ⟨Nat.le_trans (by decide) hR1, Nat.le_trans (by decide) hR2⟩) rfl rfl rfl hl.1 (Nat.le_of_ble_eq_true rfl) d_Explorer_err_17 ⟨Nat.zero_le _, Nat.zero_le _⟩) (fun H locs hw => ?_)
  refine lv_aload_n hx hb d_Explorer_err_20 rfl (lv_at hl 0 rfl) ?_
  refine zr_get (ci := 4) G hw 138 0 zi_4 rfl rfl rfl (by decide) zm_143 (fun _ h => h) (v := .ref (ad 10)) rfl d_Explorer_err_21 ?_
  refine lv_iload_n hx hb d_Explorer_err_24 rfl (lv_at hl 1 rfl) ?_
  refine lv_iload_n hx hb d_Explorer_err_25 rfl (lv_at hl 2 rfl) ?_
  obtain ⟨σ7, hc9, hf⟩ := zq_ds hf
  refine zr_cv hw (zr_runV (rest := []) (ci := 3) (o := 10) G hw [.int x1, .int x2] (zc_States_keep hJ hc9) (cwV 2 hts (zs_gV zm_169 zm_170 zm_171 zm_39 zm_168) rfl rfl rfl (by decide +kernel) ⟨Nat.le_trans (by decide) hR1, Nat.le_trans (by decide) hR2⟩) rfl rfl rfl hl.1 (Nat.le_of_ble_eq_true rfl) d_Explorer_err_26 ⟨Nat.zero_le _, Nat.zero_le _⟩) (fun H locs hw => ?_)
  exact zr_vret G hw hr hlocks hf hQ d_Explorer_err_29
/-! ScheduleCheck$Explorer.waitsFor -/
def y_Explorer_waitsFor : MethodName := ⟨"ScheduleCheck$Explorer","waitsFor","(III)Z"⟩
theorem d_Explorer_waitsFor_0 : decode prog_4_method_13_code 0 = .ok (.aload_n 0, 1) := by decide +kernel
theorem d_Explorer_waitsFor_1 : decode prog_4_method_13_code 1 = .ok (.getfield 9, 3) := by decide +kernel
theorem d_Explorer_waitsFor_4 : decode prog_4_method_13_code 4 = .ok (.iload_n 1, 1) := by decide +kernel
theorem d_Explorer_waitsFor_5 : decode prog_4_method_13_code 5 = .ok (.bipush 16, 2) := by decide +kernel
theorem d_Explorer_waitsFor_7 : decode prog_4_method_13_code 7 = .ok (.iload_n 2, 1) := by decide +kernel
theorem d_Explorer_waitsFor_8 : decode prog_4_method_13_code 8 = .ok (.iadd, 1) := by decide +kernel
theorem d_Explorer_waitsFor_9 : decode prog_4_method_13_code 9 = .ok (.invokevirtual 39, 3) := by decide +kernel
theorem d_Explorer_waitsFor_12 : decode prog_4_method_13_code 12 = .ok (.iconst 1, 1) := by decide +kernel
theorem d_Explorer_waitsFor_13 : decode prog_4_method_13_code 13 = .ok (.if_icmp .ne 20, 3) := by decide +kernel
theorem d_Explorer_waitsFor_16 : decode prog_4_method_13_code 16 = .ok (.aload_n 0, 1) := by decide +kernel
theorem d_Explorer_waitsFor_17 : decode prog_4_method_13_code 17 = .ok (.iload_n 1, 1) := by decide +kernel
theorem d_Explorer_waitsFor_18 : decode prog_4_method_13_code 18 = .ok (.iload_n 2, 1) := by decide +kernel
theorem d_Explorer_waitsFor_19 : decode prog_4_method_13_code 19 = .ok (.invokevirtual 72, 3) := by decide +kernel
theorem d_Explorer_waitsFor_22 : decode prog_4_method_13_code 22 = .ok (.getfield 87, 3) := by decide +kernel
theorem d_Explorer_waitsFor_25 : decode prog_4_method_13_code 25 = .ok (.iload_n 3, 1) := by decide +kernel
theorem d_Explorer_waitsFor_26 : decode prog_4_method_13_code 26 = .ok (.if_icmp .ne 7, 3) := by decide +kernel
theorem d_Explorer_waitsFor_29 : decode prog_4_method_13_code 29 = .ok (.iconst 1, 1) := by decide +kernel
theorem d_Explorer_waitsFor_30 : decode prog_4_method_13_code 30 = .ok (.goto 4, 3) := by decide +kernel
theorem d_Explorer_waitsFor_33 : decode prog_4_method_13_code 33 = .ok (.iconst 0, 1) := by decide +kernel
theorem d_Explorer_waitsFor_34 : decode prog_4_method_13_code 34 = .ok (.ireturn, 1) := by decide +kernel
def zf_Explorer_waitsFor_34 (F : Nat)  (t0 : Int32) (σ : zs_S) : Option (Int32 × zs_S) :=
  zq_g (zq_z t0) <|
  some (t0, σ)
def zf_Explorer_waitsFor_33 (F : Nat)   (σ : zs_S) : Option (Int32 × zs_S) :=
  zf_Explorer_waitsFor_34 F 0 σ
def zf_Explorer_waitsFor (F : Nat) (x1 : Int32) (x2 : Int32) (x3 : Int32) (σ : zs_S) : Option (Int32 × zs_S) :=
  zq_c (zf_States_cell F x1 (16 + x2) σ) fun r2 σ1 =>
  if r2 = 1 then (
    zq_c (zf_Explorer_nextOf F x1 x2 σ1) fun r5 σ4 =>
    zq_g (zq_k 0 r5 16) <|
    if (zs_i σ4 r5 2) = x3 then (
      zf_Explorer_waitsFor_34 F 1 σ4
    ) else (
      zf_Explorer_waitsFor_33 F σ4
    )
  ) else (
    zf_Explorer_waitsFor_33 F σ1
  )
set_option maxHeartbeats 4000000 in
set_option maxRecDepth 100000 in
theorem zc_Explorer_waitsFor {l : Launch} {D : va_G} {cA : Nat → ClassId} {ad : Nat → Nat} {A : Nat → Prop} {F : Nat} {x1 : Int32} {x2 : Int32} {x3 : Int32} {σ : zs_S} {q : Int32 × zs_S} (hJ : zs_J ad) (hf : zf_Explorer_waitsFor F x1 x2 x3 σ = some q) : Met l y_Explorer_waitsFor (.code y_Explorer_waitsFor prog_4_method_13_code 4 (some .boolean) :: zd_ww) { frames := 2, cells := 0, slots := 0, locals := 44 } (va_Pc [.ref (ad 138), .int x1, .int x2, .int x3] (zs_U 0 D cA ad A σ)) (zs_Qi 0 D cA ad A q) 0 0 A := by
  refine Met.ofW (cc := prog_4_method_13_code) (maxL := 4) (ret := (some .boolean)) (by decide) rfl ?_
  intro p e s m args below meth c s₁ B hml hv
  obtain ⟨hargs, hP, hK, hD, hZ⟩ := hv
  have G : zs_G 0 p s m args c prog_4_method_13_code 4 "ScheduleCheck$Explorer" D cA ad A := ⟨⟨B.exec, B.bytes, hml, findClass_of_methodNamed B.named, fun w h => atoms_spec B.pre w (List.mem_cons_of_mem _ h)⟩, hK, hJ, hZ⟩
  have hw : zs_I 0 D cA ad A s σ s.heap [] := ⟨hP, hD, va_S.rf⟩
  have hx := G.1.1
  have hb := G.1.2.1
  have hown := G.1.2.2.2.1
  have hts := G.1.2.2.2.2
  have hr := B.returns
  have hlocks := B.notSynchronized
  have he : entryFrame m args 4 = F0 m 0 ((lg_sl [.ref (ad 138), .int x1, .int x2, .int x3] ++ List.replicate (4 - (lg_sl [.ref (ad 138), .int x1, .int x2, .int x3]).length) Slot.unset).toArray) [] := by rw [hargs]; exact lg_entry_eq m _ 4
  have hl := lv_entry [.ref (ad 138), .int x1, .int x2, .int x3] (n := 4) (Nat.le_of_ble_eq_true rfl)
  rw [he]
  generalize (lg_sl [.ref (ad 138), .int x1, .int x2, .int x3] ++ List.replicate (4 - (lg_sl [.ref (ad 138), .int x1, .int x2, .int x3]).length) Slot.unset).toArray = ls at hl
  have hl : lv_has ls 4 [(0, .ref (ad 138)), (1, .int x1), (2, .int x2), (3, .int x3)] := hl
  obtain ⟨RR, hR⟩ : ∃ z, z = (headSpec (.code y_Explorer_waitsFor prog_4_method_13_code 4 (some .boolean) :: zd_ww) { frames := 2, cells := 0, slots := 0, locals := 44 }).room := ⟨_, rfl⟩
  rw [← hR]
  obtain ⟨QQ, hQ⟩ : ∃ z, z = MQ below (zs_Qi 0 D cA ad A q) args s 0 0 A := ⟨_, rfl⟩
  rw [← hQ]
  have hR1 : 2 ≤ RR.frames := by rw [hR]; exact Nat.le_refl _
  have hR2 : 44 ≤ RR.locals := by rw [hR]; exact Nat.le_refl _
  generalize s.heap = H at hw ⊢
  generalize ([] : List Loc) = locs at hw ⊢
  have K34 : ∀ (t0 : Int32) (σ : zs_S) (H : Heap) (locs : List Loc) (ls : Array Slot), zf_Explorer_waitsFor_34 F t0 σ = some q → zs_I 0 D cA ad A s σ H locs → lv_has ls 4 [] → W p l e RR s m args below meth c H locs 0 0 QQ (F0 m 34 ls [.int t0]) := by
    intro  t0 σ H locs ls hf hw hl
    unfold zf_Explorer_waitsFor_34 at hf
    obtain ⟨hz, hf⟩ := zq_gs hf
    exact zr_zret G hw hr hlocks hz hf hQ d_Explorer_waitsFor_34
  have K33 : ∀ (σ : zs_S) (H : Heap) (locs : List Loc) (ls : Array Slot), zf_Explorer_waitsFor_33 F σ = some q → zs_I 0 D cA ad A s σ H locs → lv_has ls 4 [] → W p l e RR s m args below meth c H locs 0 0 QQ (F0 m 33 ls []) := by
    intro   σ H locs ls hf hw hl
    unfold zf_Explorer_waitsFor_33 at hf
    refine lv_iconst (v := 0) hx hb d_Explorer_waitsFor_33 (by decide) ?_
    exact K34 0 σ H locs ls hf hw (lv_sub hl [] rfl)
  unfold zf_Explorer_waitsFor at hf
  refine lv_aload_n hx hb d_Explorer_waitsFor_0 rfl (lv_at hl 0 rfl) ?_
  refine zr_get (ci := 4) G hw 138 0 zi_4 rfl rfl rfl (by decide) zm_143 (fun _ h => h) (v := .ref (ad 10)) rfl d_Explorer_waitsFor_1 ?_
  refine lv_iload_n hx hb d_Explorer_waitsFor_4 rfl (lv_at hl 1 rfl) ?_
  refine lv_bipush (v := 16) hx hb d_Explorer_waitsFor_5 (by decide) ?_
  refine lv_iload_n hx hb d_Explorer_waitsFor_7 rfl (lv_at hl 2 rfl) ?_
  refine lv_iadd hx hb d_Explorer_waitsFor_8 ?_
  obtain ⟨r2, σ1, hc3, hf⟩ := zq_cs hf
  refine zr_ci hw (zr_runV (rest := []) (ci := 3) (o := 10) G hw [.int x1, .int (16 + x2)] (zc_States_cell hJ hc3) (cwV 2 hts (zs_gV zm_145 zm_146 zm_147 zm_39 zm_144) rfl rfl rfl (by decide +kernel) ⟨Nat.le_trans (by decide) hR1, Nat.le_trans (by decide) hR2⟩) rfl rfl rfl hl.1 (Nat.le_of_ble_eq_true rfl) d_Explorer_waitsFor_9 ⟨Nat.zero_le _, Nat.zero_le _⟩) (fun H locs hw => ?_)
  refine lv_iconst (v := 1) hx hb d_Explorer_waitsFor_12 (by decide) ?_
  refine lv_icmp_ne hx hb d_Explorer_waitsFor_13 (tgt := 33) rfl (fun hc => ?_) (fun hc => ?_)
  · have hf := (if_neg hc).symm.trans hf
    exact K33 σ1 H locs ls hf hw (lv_sub hl [] rfl)
  · have hf := (if_pos hc).symm.trans hf
    refine lv_aload_n hx hb d_Explorer_waitsFor_16 rfl (lv_at hl 0 rfl) ?_
    refine lv_iload_n hx hb d_Explorer_waitsFor_17 rfl (lv_at hl 1 rfl) ?_
    refine lv_iload_n hx hb d_Explorer_waitsFor_18 rfl (lv_at hl 2 rfl) ?_
    obtain ⟨r5, σ4, hc6, hf⟩ := zq_cs hf
    refine zr_cr hw (zr_runV (rest := []) (ci := 4) (o := 138) G hw [.int x1, .int x2] (zc_Explorer_nextOf hJ hc6) (cwV 2 hts (zs_gV zm_149 zm_150 zm_151 zm_152 zm_148) rfl rfl rfl (by decide +kernel) ⟨Nat.le_trans (by decide) hR1, Nat.le_trans (by decide) hR2⟩) rfl rfl rfl hl.1 (Nat.le_of_ble_eq_true rfl) d_Explorer_waitsFor_19 ⟨Nat.zero_le _, Nat.zero_le _⟩) (fun H locs hw => ?_)
    obtain ⟨hs7, hf⟩ := zq_gs hf
    have hs7 := zq_ks hs7
    refine zr_get (ci := 6) G hw r5 2 zi_6 hs7 rfl rfl (by decide) zm_155 (fun _ h => h) (v := .int (zs_i σ4 r5 2)) rfl d_Explorer_waitsFor_22 ?_
    refine lv_iload_n hx hb d_Explorer_waitsFor_25 rfl (lv_at hl 3 rfl) ?_
    refine lv_icmp_ne hx hb d_Explorer_waitsFor_26 (tgt := 33) rfl (fun hc => ?_) (fun hc => ?_)
    · have hf := (if_neg hc).symm.trans hf
      exact K33 σ4 H locs ls hf hw (lv_sub hl [] rfl)
    · have hf := (if_pos hc).symm.trans hf
      refine lv_iconst (v := 1) hx hb d_Explorer_waitsFor_29 (by decide) ?_
      refine lv_goto hx hb d_Explorer_waitsFor_30 (tgt := 34) rfl ?_
      exact K34 1 σ4 H locs ls hf hw (lv_sub hl [] rfl)
/-! ScheduleCheck$Explorer.wakeOne -/
def y_Explorer_wakeOne : MethodName := ⟨"ScheduleCheck$Explorer","wakeOne","(IILScheduleCheck$Statement;)V"⟩
theorem d_Explorer_wakeOne_0 : decode prog_4_method_11_code 0 = .ok (.iconst 1, 1) := by decide +kernel
theorem d_Explorer_wakeOne_1 : decode prog_4_method_11_code 1 = .ok (.istore 4, 2) := by decide +kernel
theorem d_Explorer_wakeOne_3 : decode prog_4_method_11_code 3 = .ok (.iconst 0, 1) := by decide +kernel
theorem d_Explorer_wakeOne_4 : decode prog_4_method_11_code 4 = .ok (.istore 5, 2) := by decide +kernel
theorem d_Explorer_wakeOne_6 : decode prog_4_method_11_code 6 = .ok (.iload 5, 2) := by decide +kernel
theorem d_Explorer_wakeOne_8 : decode prog_4_method_11_code 8 = .ok (.aload_n 0, 1) := by decide +kernel
theorem d_Explorer_wakeOne_9 : decode prog_4_method_11_code 9 = .ok (.getfield 15, 3) := by decide +kernel
theorem d_Explorer_wakeOne_12 : decode prog_4_method_11_code 12 = .ok (.getfield 43, 3) := by decide +kernel
theorem d_Explorer_wakeOne_15 : decode prog_4_method_11_code 15 = .ok (.if_icmp .ge 57, 3) := by decide +kernel
theorem d_Explorer_wakeOne_18 : decode prog_4_method_11_code 18 = .ok (.aload_n 0, 1) := by decide +kernel
theorem d_Explorer_wakeOne_19 : decode prog_4_method_11_code 19 = .ok (.iload_n 1, 1) := by decide +kernel
theorem d_Explorer_wakeOne_20 : decode prog_4_method_11_code 20 = .ok (.iload 5, 2) := by decide +kernel
theorem d_Explorer_wakeOne_22 : decode prog_4_method_11_code 22 = .ok (.aload_n 3, 1) := by decide +kernel
theorem d_Explorer_wakeOne_23 : decode prog_4_method_11_code 23 = .ok (.getfield 87, 3) := by decide +kernel
theorem d_Explorer_wakeOne_26 : decode prog_4_method_11_code 26 = .ok (.invokevirtual 160, 3) := by decide +kernel
theorem d_Explorer_wakeOne_29 : decode prog_4_method_11_code 29 = .ok (.ifCond .eq 37, 3) := by decide +kernel
theorem d_Explorer_wakeOne_32 : decode prog_4_method_11_code 32 = .ok (.iconst 0, 1) := by decide +kernel
theorem d_Explorer_wakeOne_33 : decode prog_4_method_11_code 33 = .ok (.istore 4, 2) := by decide +kernel
theorem d_Explorer_wakeOne_35 : decode prog_4_method_11_code 35 = .ok (.aload_n 0, 1) := by decide +kernel
theorem d_Explorer_wakeOne_36 : decode prog_4_method_11_code 36 = .ok (.getfield 9, 3) := by decide +kernel
theorem d_Explorer_wakeOne_39 : decode prog_4_method_11_code 39 = .ok (.iload_n 1, 1) := by decide +kernel
theorem d_Explorer_wakeOne_40 : decode prog_4_method_11_code 40 = .ok (.invokevirtual 94, 3) := by decide +kernel
theorem d_Explorer_wakeOne_43 : decode prog_4_method_11_code 43 = .ok (.aload_n 0, 1) := by decide +kernel
theorem d_Explorer_wakeOne_44 : decode prog_4_method_11_code 44 = .ok (.getfield 9, 3) := by decide +kernel
theorem d_Explorer_wakeOne_47 : decode prog_4_method_11_code 47 = .ok (.bipush 16, 2) := by decide +kernel
theorem d_Explorer_wakeOne_49 : decode prog_4_method_11_code 49 = .ok (.iload 5, 2) := by decide +kernel
theorem d_Explorer_wakeOne_51 : decode prog_4_method_11_code 51 = .ok (.iadd, 1) := by decide +kernel
theorem d_Explorer_wakeOne_52 : decode prog_4_method_11_code 52 = .ok (.iconst 2, 1) := by decide +kernel
theorem d_Explorer_wakeOne_53 : decode prog_4_method_11_code 53 = .ok (.invokevirtual 59, 3) := by decide +kernel
theorem d_Explorer_wakeOne_56 : decode prog_4_method_11_code 56 = .ok (.aload_n 0, 1) := by decide +kernel
theorem d_Explorer_wakeOne_57 : decode prog_4_method_11_code 57 = .ok (.iload_n 1, 1) := by decide +kernel
theorem d_Explorer_wakeOne_58 : decode prog_4_method_11_code 58 = .ok (.iload_n 2, 1) := by decide +kernel
theorem d_Explorer_wakeOne_59 : decode prog_4_method_11_code 59 = .ok (.aload_n 3, 1) := by decide +kernel
theorem d_Explorer_wakeOne_60 : decode prog_4_method_11_code 60 = .ok (.getfield 97, 3) := by decide +kernel
theorem d_Explorer_wakeOne_63 : decode prog_4_method_11_code 63 = .ok (.invokevirtual 100, 3) := by decide +kernel
theorem d_Explorer_wakeOne_66 : decode prog_4_method_11_code 66 = .ok (.iinc 5 1, 3) := by decide +kernel
theorem d_Explorer_wakeOne_69 : decode prog_4_method_11_code 69 = .ok (.goto (-63), 3) := by decide +kernel
theorem d_Explorer_wakeOne_72 : decode prog_4_method_11_code 72 = .ok (.iload 4, 2) := by decide +kernel
theorem d_Explorer_wakeOne_74 : decode prog_4_method_11_code 74 = .ok (.ifCond .eq 13, 3) := by decide +kernel
theorem d_Explorer_wakeOne_77 : decode prog_4_method_11_code 77 = .ok (.aload_n 0, 1) := by decide +kernel
theorem d_Explorer_wakeOne_78 : decode prog_4_method_11_code 78 = .ok (.iload_n 1, 1) := by decide +kernel
theorem d_Explorer_wakeOne_79 : decode prog_4_method_11_code 79 = .ok (.iload_n 2, 1) := by decide +kernel
theorem d_Explorer_wakeOne_80 : decode prog_4_method_11_code 80 = .ok (.aload_n 3, 1) := by decide +kernel
theorem d_Explorer_wakeOne_81 : decode prog_4_method_11_code 81 = .ok (.getfield 97, 3) := by decide +kernel
theorem d_Explorer_wakeOne_84 : decode prog_4_method_11_code 84 = .ok (.invokevirtual 100, 3) := by decide +kernel
theorem d_Explorer_wakeOne_87 : decode prog_4_method_11_code 87 = .ok (.return_, 1) := by decide +kernel
def zf_Explorer_wakeOne_87 (F : Nat)   (σ : zs_S) : Option (zs_S) :=
  some σ
def zf_Explorer_wakeOne_66 (F : Nat) (k6 : Int32 → Int32 → Nat → Int32 → Int32 → zs_S → Option (zs_S)) (x1 : Int32) (x2 : Int32) (x3 : Nat) (x4 : Int32) (x5 : Int32) (σ : zs_S) : Option (zs_S) :=
  zq_v (x5 + 1) fun v20 =>
  k6 x1 x2 x3 x4 v20 σ
def zf_Explorer_wakeOne_6 (F : Nat)  : Nat → Int32 → Int32 → Nat → Int32 → Int32 → zs_S → Option (zs_S)
  | 0, _, _, _, _, _, _ => none
  | n + 1, x1, x2, x3, x4, x5, σ =>
    zq_q (zs_r σ 138 1) fun q1 =>
    zq_g (zq_k 0 q1 15) <|
    if (zs_i σ q1 2) ≤ x5 then (
      if x4 = 0 then (
        zf_Explorer_wakeOne_87 F σ
      ) else (
        zq_g (zq_k 0 x3 16) <|
        zq_d (zf_Explorer_go F x1 x2 (zs_i σ x3 7) σ) fun σ4 =>
        zf_Explorer_wakeOne_87 F σ4
      )
    ) else (
      zq_g (zq_k 0 x3 16) <|
      zq_c (zf_Explorer_waitsFor F x1 x5 (zs_i σ x3 2) σ) fun r9 σ8 =>
      if r9 = 0 then (
        zf_Explorer_wakeOne_66 F (zf_Explorer_wakeOne_6 F n) x1 x2 x3 x4 x5 σ8
      ) else (
        zq_d (zf_States_copy F x1 σ8) fun σ11 =>
        zq_d (zf_States_set F (16 + x5) 2 σ11) fun σ14 =>
        zq_d (zf_Explorer_go F x1 x2 (zs_i σ14 x3 7) σ14) fun σ17 =>
        zf_Explorer_wakeOne_66 F (zf_Explorer_wakeOne_6 F n) x1 x2 x3 0 x5 σ17
      )
    )
def zf_Explorer_wakeOne (F : Nat) (x1 : Int32) (x2 : Int32) (x3 : Nat) (σ : zs_S) : Option (zs_S) :=
  zf_Explorer_wakeOne_6 F F x1 x2 x3 1 0 σ
set_option maxHeartbeats 4000000 in
set_option maxRecDepth 100000 in
theorem zc_Explorer_wakeOne {l : Launch} {D : va_G} {cA : Nat → ClassId} {ad : Nat → Nat} {A : Nat → Prop} {F : Nat} {x1 : Int32} {x2 : Int32} {x3 : Nat} {σ : zs_S} {q : zs_S} (hJ : zs_J ad) (hf : zf_Explorer_wakeOne F x1 x2 x3 σ = some q) : Met l y_Explorer_wakeOne (.code y_Explorer_wakeOne prog_4_method_11_code 6 none :: zd_ww) { frames := 4, cells := 0, slots := 0, locals := 92 } (va_Pc [.ref (ad 138), .int x1, .int x2, .ref (ad x3)] (zs_U 0 D cA ad A σ)) (zs_Qv 0 D cA ad A q) 0 0 A := by
  refine Met.ofW (cc := prog_4_method_11_code) (maxL := 6) (ret := none) (by decide) rfl ?_
  intro p e s m args below meth c s₁ B hml hv
  obtain ⟨hargs, hP, hK, hD, hZ⟩ := hv
  have G : zs_G 0 p s m args c prog_4_method_11_code 6 "ScheduleCheck$Explorer" D cA ad A := ⟨⟨B.exec, B.bytes, hml, findClass_of_methodNamed B.named, fun w h => atoms_spec B.pre w (List.mem_cons_of_mem _ h)⟩, hK, hJ, hZ⟩
  have hw : zs_I 0 D cA ad A s σ s.heap [] := ⟨hP, hD, va_S.rf⟩
  have hx := G.1.1
  have hb := G.1.2.1
  have hown := G.1.2.2.2.1
  have hts := G.1.2.2.2.2
  have hr := B.returns
  have hlocks := B.notSynchronized
  have he : entryFrame m args 6 = F0 m 0 ((lg_sl [.ref (ad 138), .int x1, .int x2, .ref (ad x3)] ++ List.replicate (6 - (lg_sl [.ref (ad 138), .int x1, .int x2, .ref (ad x3)]).length) Slot.unset).toArray) [] := by rw [hargs]; exact lg_entry_eq m _ 6
  have hl := lv_entry [.ref (ad 138), .int x1, .int x2, .ref (ad x3)] (n := 6) (Nat.le_of_ble_eq_true rfl)
  rw [he]
  generalize (lg_sl [.ref (ad 138), .int x1, .int x2, .ref (ad x3)] ++ List.replicate (6 - (lg_sl [.ref (ad 138), .int x1, .int x2, .ref (ad x3)]).length) Slot.unset).toArray = ls at hl
  have hl : lv_has ls 6 [(0, .ref (ad 138)), (1, .int x1), (2, .int x2), (3, .ref (ad x3))] := hl
  obtain ⟨RR, hR⟩ : ∃ z, z = (headSpec (.code y_Explorer_wakeOne prog_4_method_11_code 6 none :: zd_ww) { frames := 4, cells := 0, slots := 0, locals := 92 }).room := ⟨_, rfl⟩
  rw [← hR]
  obtain ⟨QQ, hQ⟩ : ∃ z, z = MQ below (zs_Qv 0 D cA ad A q) args s 0 0 A := ⟨_, rfl⟩
  rw [← hQ]
  have hR1 : 4 ≤ RR.frames := by rw [hR]; exact Nat.le_refl _
  have hR2 : 92 ≤ RR.locals := by rw [hR]; exact Nat.le_refl _
  generalize s.heap = H at hw ⊢
  generalize ([] : List Loc) = locs at hw ⊢
  have K87 : ∀ (σ : zs_S) (H : Heap) (locs : List Loc) (ls : Array Slot), zf_Explorer_wakeOne_87 F σ = some q → zs_I 0 D cA ad A s σ H locs → lv_has ls 6 [] → W p l e RR s m args below meth c H locs 0 0 QQ (F0 m 87 ls []) := by
    intro   σ H locs ls hf hw hl
    unfold zf_Explorer_wakeOne_87 at hf
    exact zr_vret G hw hr hlocks hf hQ d_Explorer_wakeOne_87
  have K66 : ∀ (k6 : Int32 → Int32 → Nat → Int32 → Int32 → zs_S → Option (zs_S)) (hk6 : ∀ (x1 : Int32) (x2 : Int32) (x3 : Nat) (x4 : Int32) (x5 : Int32) (σ : zs_S) (H : Heap) (locs : List Loc) (ls : Array Slot), k6 x1 x2 x3 x4 x5 σ = some q → zs_I 0 D cA ad A s σ H locs → lv_has ls 6 [(0, .ref (ad 138)), (1, .int x1), (2, .int x2), (3, .ref (ad x3)), (4, .int x4), (5, .int x5)] → W p l e RR s m args below meth c H locs 0 0 QQ (F0 m 6 ls [])) (x1 : Int32) (x2 : Int32) (x3 : Nat) (x4 : Int32) (x5 : Int32) (σ : zs_S) (H : Heap) (locs : List Loc) (ls : Array Slot), zf_Explorer_wakeOne_66 F k6 x1 x2 x3 x4 x5 σ = some q → zs_I 0 D cA ad A s σ H locs → lv_has ls 6 [(0, .ref (ad 138)), (1, .int x1), (2, .int x2), (3, .ref (ad x3)), (4, .int x4), (5, .int x5)] → W p l e RR s m args below meth c H locs 0 0 QQ (F0 m 66 ls []) := by
    intro k6 hk6 x1 x2 x3 x4 x5 σ H locs ls hf hw hl
    unfold zf_Explorer_wakeOne_66 at hf
    obtain ⟨v20, e_v20, hf⟩ := zq_ss hf
    refine lv_iinc (v := v20) hx hb d_Explorer_wakeOne_66 hl (k := 5) rfl (zq_inc (k := 1) (by decide) e_v20) (by decide) rfl (fun ls hl => ?_)
    have hl : lv_has ls 6 [(5, .int v20), (0, .ref (ad 138)), (1, .int x1), (2, .int x2), (3, .ref (ad x3)), (4, .int x4)] := hl
    refine lv_goto hx hb d_Explorer_wakeOne_69 (tgt := 6) rfl ?_
    exact hk6 x1 x2 x3 x4 v20 σ H locs ls hf hw (lv_sub hl [1, 2, 3, 4, 5, 0] rfl)
  have K6 : ∀ (n : Nat) (x1 : Int32) (x2 : Int32) (x3 : Nat) (x4 : Int32) (x5 : Int32) (σ : zs_S) (H : Heap) (locs : List Loc) (ls : Array Slot), zf_Explorer_wakeOne_6 F n x1 x2 x3 x4 x5 σ = some q → zs_I 0 D cA ad A s σ H locs → lv_has ls 6 [(0, .ref (ad 138)), (1, .int x1), (2, .int x2), (3, .ref (ad x3)), (4, .int x4), (5, .int x5)] → W p l e RR s m args below meth c H locs 0 0 QQ (F0 m 6 ls []) := by
    intro  n
    induction n with
    | zero => intro x1 x2 x3 x4 x5 σ H locs ls hf hw hl; exact nomatch (show (none : Option (zs_S)) = some q from hf)
    | succ n ih =>
      intro x1 x2 x3 x4 x5 σ H locs ls hf hw hl
      rw [zf_Explorer_wakeOne_6] at hf
      refine lv_iload hx hb d_Explorer_wakeOne_6 (lv_at hl 5 rfl) ?_
      refine lv_aload_n hx hb d_Explorer_wakeOne_8 rfl (lv_at hl 0 rfl) ?_
      obtain ⟨q1, e_q1, h_q1, hf⟩ := zq_qs hf
      refine zr_get (ci := 4) G hw 138 1 zi_4 rfl rfl rfl (by decide) zm_141 (fun _ h => h) (v := .ref (ad q1)) (zs_fr rfl e_q1 h_q1) d_Explorer_wakeOne_9 ?_
      obtain ⟨hs2, hf⟩ := zq_gs hf
      have hs2 := zq_ks hs2
      refine zr_get (ci := 5) G hw q1 2 zi_5 hs2 rfl rfl (by decide) zm_172 (fun _ h => h) (v := .int (zs_i σ q1 2)) rfl d_Explorer_wakeOne_12 ?_
      refine lv_icmp_ge hx hb d_Explorer_wakeOne_15 (tgt := 72) rfl (fun hc => ?_) (fun hc => ?_)
      · have hf := (if_pos hc).symm.trans hf
        refine lv_iload hx hb d_Explorer_wakeOne_72 (lv_at hl 4 rfl) ?_
        refine lv_if_eq hx hb d_Explorer_wakeOne_74 (tgt := 87) rfl (fun hc => ?_) (fun hc => ?_)
        · have hf := (if_pos hc).symm.trans hf
          exact K87 σ H locs ls hf hw (lv_sub hl [] rfl)
        · have hf := (if_neg hc).symm.trans hf
          refine lv_aload_n hx hb d_Explorer_wakeOne_77 rfl (lv_at hl 0 rfl) ?_
          refine lv_iload_n hx hb d_Explorer_wakeOne_78 rfl (lv_at hl 1 rfl) ?_
          refine lv_iload_n hx hb d_Explorer_wakeOne_79 rfl (lv_at hl 2 rfl) ?_
          refine lv_aload_n hx hb d_Explorer_wakeOne_80 rfl (lv_at hl 3 rfl) ?_
          obtain ⟨hs3, hf⟩ := zq_gs hf
          have hs3 := zq_ks hs3
          refine zr_get (ci := 6) G hw x3 7 zi_6 hs3 rfl rfl (by decide) zm_173 (fun _ h => h) (v := .int (zs_i σ x3 7)) rfl d_Explorer_wakeOne_81 ?_
          obtain ⟨σ4, hc6, hf⟩ := zq_ds hf
          refine zr_cv hw (zr_runV (rest := []) (ci := 4) (o := 138) G hw [.int x1, .int x2, .int (zs_i σ x3 7)] (zc_Explorer_go hJ hc6) (cwV 3 hts (zs_gV zm_175 zm_176 zm_177 zm_152 zm_174) rfl rfl rfl (by decide +kernel) ⟨Nat.le_trans (by decide) hR1, Nat.le_trans (by decide) hR2⟩) rfl rfl rfl hl.1 (Nat.le_of_ble_eq_true rfl) d_Explorer_wakeOne_84 ⟨Nat.zero_le _, Nat.zero_le _⟩) (fun H locs hw => ?_)
          exact K87 σ4 H locs ls hf hw (lv_sub hl [] rfl)
      · have hf := (if_neg hc).symm.trans hf
        refine lv_aload_n hx hb d_Explorer_wakeOne_18 rfl (lv_at hl 0 rfl) ?_
        refine lv_iload_n hx hb d_Explorer_wakeOne_19 rfl (lv_at hl 1 rfl) ?_
        refine lv_iload hx hb d_Explorer_wakeOne_20 (lv_at hl 5 rfl) ?_
        refine lv_aload_n hx hb d_Explorer_wakeOne_22 rfl (lv_at hl 3 rfl) ?_
        obtain ⟨hs7, hf⟩ := zq_gs hf
        have hs7 := zq_ks hs7
        refine zr_get (ci := 6) G hw x3 2 zi_6 hs7 rfl rfl (by decide) zm_155 (fun _ h => h) (v := .int (zs_i σ x3 2)) rfl d_Explorer_wakeOne_23 ?_
        obtain ⟨r9, σ8, hc10, hf⟩ := zq_cs hf
        refine zr_ci hw (zr_runV (rest := []) (ci := 4) (o := 138) G hw [.int x1, .int x5, .int (zs_i σ x3 2)] (zc_Explorer_waitsFor hJ hc10) (cwV 3 hts (zs_gV zm_179 zm_180 zm_181 zm_152 zm_178) rfl rfl rfl (by decide +kernel) ⟨Nat.le_trans (by decide) hR1, Nat.le_trans (by decide) hR2⟩) rfl rfl rfl hl.1 (Nat.le_of_ble_eq_true rfl) d_Explorer_wakeOne_26 ⟨Nat.zero_le _, Nat.zero_le _⟩) (fun H locs hw => ?_)
        refine lv_if_eq hx hb d_Explorer_wakeOne_29 (tgt := 66) rfl (fun hc => ?_) (fun hc => ?_)
        · have hf := (if_pos hc).symm.trans hf
          exact K66 (zf_Explorer_wakeOne_6 F n) ih x1 x2 x3 x4 x5 σ8 H locs ls hf hw (lv_sub hl [0, 1, 2, 3, 4, 5] rfl)
        · have hf := (if_neg hc).symm.trans hf
          refine lv_iconst (v := 0) hx hb d_Explorer_wakeOne_32 (by decide) ?_
          refine lv_istore hx hb d_Explorer_wakeOne_33 hl (by decide) rfl (fun ls hl => ?_)
          have hl : lv_has ls 6 [(4, .int 0), (0, .ref (ad 138)), (1, .int x1), (2, .int x2), (3, .ref (ad x3)), (5, .int x5)] := hl
          refine lv_aload_n hx hb d_Explorer_wakeOne_35 rfl (lv_at hl 1 rfl) ?_
          refine zr_get (ci := 4) G hw 138 0 zi_4 rfl rfl rfl (by decide) zm_143 (fun _ h => h) (v := .ref (ad 10)) rfl d_Explorer_wakeOne_36 ?_
          refine lv_iload_n hx hb d_Explorer_wakeOne_39 rfl (lv_at hl 2 rfl) ?_
          obtain ⟨σ11, hc13, hf⟩ := zq_ds hf
          refine zr_cv hw (zr_runV (rest := []) (ci := 3) (o := 10) G hw [.int x1] (zc_States_copy hJ hc13) (cwV 1 hts (zs_gV zm_183 zm_184 zm_185 zm_39 zm_182) rfl rfl rfl (by decide +kernel) ⟨Nat.le_trans (by decide) hR1, Nat.le_trans (by decide) hR2⟩) rfl rfl rfl hl.1 (Nat.le_of_ble_eq_true rfl) d_Explorer_wakeOne_40 ⟨Nat.zero_le _, Nat.zero_le _⟩) (fun H locs hw => ?_)
          refine lv_aload_n hx hb d_Explorer_wakeOne_43 rfl (lv_at hl 1 rfl) ?_
          refine zr_get (ci := 4) G hw 138 0 zi_4 rfl rfl rfl (by decide) zm_143 (fun _ h => h) (v := .ref (ad 10)) rfl d_Explorer_wakeOne_44 ?_
          refine lv_bipush (v := 16) hx hb d_Explorer_wakeOne_47 (by decide) ?_
          refine lv_iload hx hb d_Explorer_wakeOne_49 (lv_at hl 5 rfl) ?_
          refine lv_iadd hx hb d_Explorer_wakeOne_51 ?_
          refine lv_iconst (v := 2) hx hb d_Explorer_wakeOne_52 (by decide) ?_
          obtain ⟨σ14, hc16, hf⟩ := zq_ds hf
          refine zr_cv hw (zr_runV (rest := []) (ci := 3) (o := 10) G hw [.int (16 + x5), .int 2] (zc_States_set hJ hc16) (cwV 2 hts (zs_gV zm_165 zm_166 zm_167 zm_39 zm_164) rfl rfl rfl (by decide +kernel) ⟨Nat.le_trans (by decide) hR1, Nat.le_trans (by decide) hR2⟩) rfl rfl rfl hl.1 (Nat.le_of_ble_eq_true rfl) d_Explorer_wakeOne_53 ⟨Nat.zero_le _, Nat.zero_le _⟩) (fun H locs hw => ?_)
          refine lv_aload_n hx hb d_Explorer_wakeOne_56 rfl (lv_at hl 1 rfl) ?_
          refine lv_iload_n hx hb d_Explorer_wakeOne_57 rfl (lv_at hl 2 rfl) ?_
          refine lv_iload_n hx hb d_Explorer_wakeOne_58 rfl (lv_at hl 3 rfl) ?_
          refine lv_aload_n hx hb d_Explorer_wakeOne_59 rfl (lv_at hl 4 rfl) ?_
          refine zr_get (ci := 6) G hw x3 7 zi_6 hs7 rfl rfl (by decide) zm_173 (fun _ h => h) (v := .int (zs_i σ14 x3 7)) rfl d_Explorer_wakeOne_60 ?_
          obtain ⟨σ17, hc19, hf⟩ := zq_ds hf
          refine zr_cv hw (zr_runV (rest := []) (ci := 4) (o := 138) G hw [.int x1, .int x2, .int (zs_i σ14 x3 7)] (zc_Explorer_go hJ hc19) (cwV 3 hts (zs_gV zm_175 zm_176 zm_177 zm_152 zm_174) rfl rfl rfl (by decide +kernel) ⟨Nat.le_trans (by decide) hR1, Nat.le_trans (by decide) hR2⟩) rfl rfl rfl hl.1 (Nat.le_of_ble_eq_true rfl) d_Explorer_wakeOne_63 ⟨Nat.zero_le _, Nat.zero_le _⟩) (fun H locs hw => ?_)
          exact K66 (zf_Explorer_wakeOne_6 F n) ih x1 x2 x3 0 x5 σ17 H locs ls hf hw (lv_sub hl [1, 2, 3, 4, 0, 5] rfl)
  unfold zf_Explorer_wakeOne at hf
  refine lv_iconst (v := 1) hx hb d_Explorer_wakeOne_0 (by decide) ?_
  refine lv_istore hx hb d_Explorer_wakeOne_1 hl (by decide) rfl (fun ls hl => ?_)
  have hl : lv_has ls 6 [(4, .int 1), (0, .ref (ad 138)), (1, .int x1), (2, .int x2), (3, .ref (ad x3))] := hl
  refine lv_iconst (v := 0) hx hb d_Explorer_wakeOne_3 (by decide) ?_
  refine lv_istore hx hb d_Explorer_wakeOne_4 hl (by decide) rfl (fun ls hl => ?_)
  have hl : lv_has ls 6 [(5, .int 0), (4, .int 1), (0, .ref (ad 138)), (1, .int x1), (2, .int x2), (3, .ref (ad x3))] := hl
  exact K6 F x1 x2 x3 1 0 σ H locs ls hf hw (lv_sub hl [2, 3, 4, 5, 1, 0] rfl)
/-! ScheduleCheck$Explorer.wakeAll -/
def y_Explorer_wakeAll : MethodName := ⟨"ScheduleCheck$Explorer","wakeAll","(IILScheduleCheck$Statement;)V"⟩
theorem d_Explorer_wakeAll_0 : decode prog_4_method_12_code 0 = .ok (.iconst 0, 1) := by decide +kernel
theorem d_Explorer_wakeAll_1 : decode prog_4_method_12_code 1 = .ok (.istore 4, 2) := by decide +kernel
theorem d_Explorer_wakeAll_3 : decode prog_4_method_12_code 3 = .ok (.iload 4, 2) := by decide +kernel
theorem d_Explorer_wakeAll_5 : decode prog_4_method_12_code 5 = .ok (.aload_n 0, 1) := by decide +kernel
theorem d_Explorer_wakeAll_6 : decode prog_4_method_12_code 6 = .ok (.getfield 15, 3) := by decide +kernel
theorem d_Explorer_wakeAll_9 : decode prog_4_method_12_code 9 = .ok (.getfield 43, 3) := by decide +kernel
theorem d_Explorer_wakeAll_12 : decode prog_4_method_12_code 12 = .ok (.if_icmp .ge 36, 3) := by decide +kernel
theorem d_Explorer_wakeAll_15 : decode prog_4_method_12_code 15 = .ok (.aload_n 0, 1) := by decide +kernel
theorem d_Explorer_wakeAll_16 : decode prog_4_method_12_code 16 = .ok (.iload_n 1, 1) := by decide +kernel
theorem d_Explorer_wakeAll_17 : decode prog_4_method_12_code 17 = .ok (.iload 4, 2) := by decide +kernel
theorem d_Explorer_wakeAll_19 : decode prog_4_method_12_code 19 = .ok (.aload_n 3, 1) := by decide +kernel
theorem d_Explorer_wakeAll_20 : decode prog_4_method_12_code 20 = .ok (.getfield 87, 3) := by decide +kernel
theorem d_Explorer_wakeAll_23 : decode prog_4_method_12_code 23 = .ok (.invokevirtual 160, 3) := by decide +kernel
theorem d_Explorer_wakeAll_26 : decode prog_4_method_12_code 26 = .ok (.ifCond .eq 16, 3) := by decide +kernel
theorem d_Explorer_wakeAll_29 : decode prog_4_method_12_code 29 = .ok (.aload_n 0, 1) := by decide +kernel
theorem d_Explorer_wakeAll_30 : decode prog_4_method_12_code 30 = .ok (.getfield 9, 3) := by decide +kernel
theorem d_Explorer_wakeAll_33 : decode prog_4_method_12_code 33 = .ok (.bipush 16, 2) := by decide +kernel
theorem d_Explorer_wakeAll_35 : decode prog_4_method_12_code 35 = .ok (.iload 4, 2) := by decide +kernel
theorem d_Explorer_wakeAll_37 : decode prog_4_method_12_code 37 = .ok (.iadd, 1) := by decide +kernel
theorem d_Explorer_wakeAll_38 : decode prog_4_method_12_code 38 = .ok (.iconst 2, 1) := by decide +kernel
theorem d_Explorer_wakeAll_39 : decode prog_4_method_12_code 39 = .ok (.invokevirtual 59, 3) := by decide +kernel
theorem d_Explorer_wakeAll_42 : decode prog_4_method_12_code 42 = .ok (.iinc 4 1, 3) := by decide +kernel
theorem d_Explorer_wakeAll_45 : decode prog_4_method_12_code 45 = .ok (.goto (-42), 3) := by decide +kernel
theorem d_Explorer_wakeAll_48 : decode prog_4_method_12_code 48 = .ok (.aload_n 0, 1) := by decide +kernel
theorem d_Explorer_wakeAll_49 : decode prog_4_method_12_code 49 = .ok (.iload_n 1, 1) := by decide +kernel
theorem d_Explorer_wakeAll_50 : decode prog_4_method_12_code 50 = .ok (.iload_n 2, 1) := by decide +kernel
theorem d_Explorer_wakeAll_51 : decode prog_4_method_12_code 51 = .ok (.aload_n 3, 1) := by decide +kernel
theorem d_Explorer_wakeAll_52 : decode prog_4_method_12_code 52 = .ok (.getfield 97, 3) := by decide +kernel
theorem d_Explorer_wakeAll_55 : decode prog_4_method_12_code 55 = .ok (.invokevirtual 100, 3) := by decide +kernel
theorem d_Explorer_wakeAll_58 : decode prog_4_method_12_code 58 = .ok (.return_, 1) := by decide +kernel
def zf_Explorer_wakeAll_42 (F : Nat) (k3 : Int32 → Int32 → Nat → Int32 → zs_S → Option (zs_S)) (x1 : Int32) (x2 : Int32) (x3 : Nat) (x4 : Int32) (σ : zs_S) : Option (zs_S) :=
  zq_v (x4 + 1) fun v14 =>
  k3 x1 x2 x3 v14 σ
def zf_Explorer_wakeAll_3 (F : Nat)  : Nat → Int32 → Int32 → Nat → Int32 → zs_S → Option (zs_S)
  | 0, _, _, _, _, _ => none
  | n + 1, x1, x2, x3, x4, σ =>
    zq_q (zs_r σ 138 1) fun q1 =>
    zq_g (zq_k 0 q1 15) <|
    if (zs_i σ q1 2) ≤ x4 then (
      zq_g (zq_k 0 x3 16) <|
      zq_d (zf_Explorer_go F x1 x2 (zs_i σ x3 7) σ) fun σ4 =>
      some σ4
    ) else (
      zq_g (zq_k 0 x3 16) <|
      zq_c (zf_Explorer_waitsFor F x1 x4 (zs_i σ x3 2) σ) fun r9 σ8 =>
      if r9 = 0 then (
        zf_Explorer_wakeAll_42 F (zf_Explorer_wakeAll_3 F n) x1 x2 x3 x4 σ8
      ) else (
        zq_d (zf_States_set F (16 + x4) 2 σ8) fun σ11 =>
        zf_Explorer_wakeAll_42 F (zf_Explorer_wakeAll_3 F n) x1 x2 x3 x4 σ11
      )
    )
def zf_Explorer_wakeAll (F : Nat) (x1 : Int32) (x2 : Int32) (x3 : Nat) (σ : zs_S) : Option (zs_S) :=
  zf_Explorer_wakeAll_3 F F x1 x2 x3 0 σ
set_option maxHeartbeats 4000000 in
set_option maxRecDepth 100000 in
theorem zc_Explorer_wakeAll {l : Launch} {D : va_G} {cA : Nat → ClassId} {ad : Nat → Nat} {A : Nat → Prop} {F : Nat} {x1 : Int32} {x2 : Int32} {x3 : Nat} {σ : zs_S} {q : zs_S} (hJ : zs_J ad) (hf : zf_Explorer_wakeAll F x1 x2 x3 σ = some q) : Met l y_Explorer_wakeAll (.code y_Explorer_wakeAll prog_4_method_12_code 5 none :: zd_ww) { frames := 4, cells := 0, slots := 0, locals := 92 } (va_Pc [.ref (ad 138), .int x1, .int x2, .ref (ad x3)] (zs_U 0 D cA ad A σ)) (zs_Qv 0 D cA ad A q) 0 0 A := by
  refine Met.ofW (cc := prog_4_method_12_code) (maxL := 5) (ret := none) (by decide) rfl ?_
  intro p e s m args below meth c s₁ B hml hv
  obtain ⟨hargs, hP, hK, hD, hZ⟩ := hv
  have G : zs_G 0 p s m args c prog_4_method_12_code 5 "ScheduleCheck$Explorer" D cA ad A := ⟨⟨B.exec, B.bytes, hml, findClass_of_methodNamed B.named, fun w h => atoms_spec B.pre w (List.mem_cons_of_mem _ h)⟩, hK, hJ, hZ⟩
  have hw : zs_I 0 D cA ad A s σ s.heap [] := ⟨hP, hD, va_S.rf⟩
  have hx := G.1.1
  have hb := G.1.2.1
  have hown := G.1.2.2.2.1
  have hts := G.1.2.2.2.2
  have hr := B.returns
  have hlocks := B.notSynchronized
  have he : entryFrame m args 5 = F0 m 0 ((lg_sl [.ref (ad 138), .int x1, .int x2, .ref (ad x3)] ++ List.replicate (5 - (lg_sl [.ref (ad 138), .int x1, .int x2, .ref (ad x3)]).length) Slot.unset).toArray) [] := by rw [hargs]; exact lg_entry_eq m _ 5
  have hl := lv_entry [.ref (ad 138), .int x1, .int x2, .ref (ad x3)] (n := 5) (Nat.le_of_ble_eq_true rfl)
  rw [he]
  generalize (lg_sl [.ref (ad 138), .int x1, .int x2, .ref (ad x3)] ++ List.replicate (5 - (lg_sl [.ref (ad 138), .int x1, .int x2, .ref (ad x3)]).length) Slot.unset).toArray = ls at hl
  have hl : lv_has ls 5 [(0, .ref (ad 138)), (1, .int x1), (2, .int x2), (3, .ref (ad x3))] := hl
  obtain ⟨RR, hR⟩ : ∃ z, z = (headSpec (.code y_Explorer_wakeAll prog_4_method_12_code 5 none :: zd_ww) { frames := 4, cells := 0, slots := 0, locals := 92 }).room := ⟨_, rfl⟩
  rw [← hR]
  obtain ⟨QQ, hQ⟩ : ∃ z, z = MQ below (zs_Qv 0 D cA ad A q) args s 0 0 A := ⟨_, rfl⟩
  rw [← hQ]
  have hR1 : 4 ≤ RR.frames := by rw [hR]; exact Nat.le_refl _
  have hR2 : 92 ≤ RR.locals := by rw [hR]; exact Nat.le_refl _
  generalize s.heap = H at hw ⊢
  generalize ([] : List Loc) = locs at hw ⊢
  have K42 : ∀ (k3 : Int32 → Int32 → Nat → Int32 → zs_S → Option (zs_S)) (hk3 : ∀ (x1 : Int32) (x2 : Int32) (x3 : Nat) (x4 : Int32) (σ : zs_S) (H : Heap) (locs : List Loc) (ls : Array Slot), k3 x1 x2 x3 x4 σ = some q → zs_I 0 D cA ad A s σ H locs → lv_has ls 5 [(0, .ref (ad 138)), (1, .int x1), (2, .int x2), (3, .ref (ad x3)), (4, .int x4)] → W p l e RR s m args below meth c H locs 0 0 QQ (F0 m 3 ls [])) (x1 : Int32) (x2 : Int32) (x3 : Nat) (x4 : Int32) (σ : zs_S) (H : Heap) (locs : List Loc) (ls : Array Slot), zf_Explorer_wakeAll_42 F k3 x1 x2 x3 x4 σ = some q → zs_I 0 D cA ad A s σ H locs → lv_has ls 5 [(0, .ref (ad 138)), (1, .int x1), (2, .int x2), (3, .ref (ad x3)), (4, .int x4)] → W p l e RR s m args below meth c H locs 0 0 QQ (F0 m 42 ls []) := by
    intro k3 hk3 x1 x2 x3 x4 σ H locs ls hf hw hl
    unfold zf_Explorer_wakeAll_42 at hf
    obtain ⟨v14, e_v14, hf⟩ := zq_ss hf
    refine lv_iinc (v := v14) hx hb d_Explorer_wakeAll_42 hl (k := 4) rfl (zq_inc (k := 1) (by decide) e_v14) (by decide) rfl (fun ls hl => ?_)
    have hl : lv_has ls 5 [(4, .int v14), (0, .ref (ad 138)), (1, .int x1), (2, .int x2), (3, .ref (ad x3))] := hl
    refine lv_goto hx hb d_Explorer_wakeAll_45 (tgt := 3) rfl ?_
    exact hk3 x1 x2 x3 v14 σ H locs ls hf hw (lv_sub hl [1, 2, 3, 4, 0] rfl)
  have K3 : ∀ (n : Nat) (x1 : Int32) (x2 : Int32) (x3 : Nat) (x4 : Int32) (σ : zs_S) (H : Heap) (locs : List Loc) (ls : Array Slot), zf_Explorer_wakeAll_3 F n x1 x2 x3 x4 σ = some q → zs_I 0 D cA ad A s σ H locs → lv_has ls 5 [(0, .ref (ad 138)), (1, .int x1), (2, .int x2), (3, .ref (ad x3)), (4, .int x4)] → W p l e RR s m args below meth c H locs 0 0 QQ (F0 m 3 ls []) := by
    intro  n
    induction n with
    | zero => intro x1 x2 x3 x4 σ H locs ls hf hw hl; exact nomatch (show (none : Option (zs_S)) = some q from hf)
    | succ n ih =>
      intro x1 x2 x3 x4 σ H locs ls hf hw hl
      rw [zf_Explorer_wakeAll_3] at hf
      refine lv_iload hx hb d_Explorer_wakeAll_3 (lv_at hl 4 rfl) ?_
      refine lv_aload_n hx hb d_Explorer_wakeAll_5 rfl (lv_at hl 0 rfl) ?_
      obtain ⟨q1, e_q1, h_q1, hf⟩ := zq_qs hf
      refine zr_get (ci := 4) G hw 138 1 zi_4 rfl rfl rfl (by decide) zm_141 (fun _ h => h) (v := .ref (ad q1)) (zs_fr rfl e_q1 h_q1) d_Explorer_wakeAll_6 ?_
      obtain ⟨hs2, hf⟩ := zq_gs hf
      have hs2 := zq_ks hs2
      refine zr_get (ci := 5) G hw q1 2 zi_5 hs2 rfl rfl (by decide) zm_172 (fun _ h => h) (v := .int (zs_i σ q1 2)) rfl d_Explorer_wakeAll_9 ?_
      refine lv_icmp_ge hx hb d_Explorer_wakeAll_12 (tgt := 48) rfl (fun hc => ?_) (fun hc => ?_)
      · have hf := (if_pos hc).symm.trans hf
        refine lv_aload_n hx hb d_Explorer_wakeAll_48 rfl (lv_at hl 0 rfl) ?_
        refine lv_iload_n hx hb d_Explorer_wakeAll_49 rfl (lv_at hl 1 rfl) ?_
        refine lv_iload_n hx hb d_Explorer_wakeAll_50 rfl (lv_at hl 2 rfl) ?_
        refine lv_aload_n hx hb d_Explorer_wakeAll_51 rfl (lv_at hl 3 rfl) ?_
        obtain ⟨hs3, hf⟩ := zq_gs hf
        have hs3 := zq_ks hs3
        refine zr_get (ci := 6) G hw x3 7 zi_6 hs3 rfl rfl (by decide) zm_173 (fun _ h => h) (v := .int (zs_i σ x3 7)) rfl d_Explorer_wakeAll_52 ?_
        obtain ⟨σ4, hc6, hf⟩ := zq_ds hf
        refine zr_cv hw (zr_runV (rest := []) (ci := 4) (o := 138) G hw [.int x1, .int x2, .int (zs_i σ x3 7)] (zc_Explorer_go hJ hc6) (cwV 3 hts (zs_gV zm_175 zm_176 zm_177 zm_152 zm_174) rfl rfl rfl (by decide +kernel) ⟨Nat.le_trans (by decide) hR1, Nat.le_trans (by decide) hR2⟩) rfl rfl rfl hl.1 (Nat.le_of_ble_eq_true rfl) d_Explorer_wakeAll_55 ⟨Nat.zero_le _, Nat.zero_le _⟩) (fun H locs hw => ?_)
        exact zr_vret G hw hr hlocks hf hQ d_Explorer_wakeAll_58
      · have hf := (if_neg hc).symm.trans hf
        refine lv_aload_n hx hb d_Explorer_wakeAll_15 rfl (lv_at hl 0 rfl) ?_
        refine lv_iload_n hx hb d_Explorer_wakeAll_16 rfl (lv_at hl 1 rfl) ?_
        refine lv_iload hx hb d_Explorer_wakeAll_17 (lv_at hl 4 rfl) ?_
        refine lv_aload_n hx hb d_Explorer_wakeAll_19 rfl (lv_at hl 3 rfl) ?_
        obtain ⟨hs7, hf⟩ := zq_gs hf
        have hs7 := zq_ks hs7
        refine zr_get (ci := 6) G hw x3 2 zi_6 hs7 rfl rfl (by decide) zm_155 (fun _ h => h) (v := .int (zs_i σ x3 2)) rfl d_Explorer_wakeAll_20 ?_
        obtain ⟨r9, σ8, hc10, hf⟩ := zq_cs hf
        refine zr_ci hw (zr_runV (rest := []) (ci := 4) (o := 138) G hw [.int x1, .int x4, .int (zs_i σ x3 2)] (zc_Explorer_waitsFor hJ hc10) (cwV 3 hts (zs_gV zm_179 zm_180 zm_181 zm_152 zm_178) rfl rfl rfl (by decide +kernel) ⟨Nat.le_trans (by decide) hR1, Nat.le_trans (by decide) hR2⟩) rfl rfl rfl hl.1 (Nat.le_of_ble_eq_true rfl) d_Explorer_wakeAll_23 ⟨Nat.zero_le _, Nat.zero_le _⟩) (fun H locs hw => ?_)
        refine lv_if_eq hx hb d_Explorer_wakeAll_26 (tgt := 42) rfl (fun hc => ?_) (fun hc => ?_)
        · have hf := (if_pos hc).symm.trans hf
          exact K42 (zf_Explorer_wakeAll_3 F n) ih x1 x2 x3 x4 σ8 H locs ls hf hw (lv_sub hl [0, 1, 2, 3, 4] rfl)
        · have hf := (if_neg hc).symm.trans hf
          refine lv_aload_n hx hb d_Explorer_wakeAll_29 rfl (lv_at hl 0 rfl) ?_
          refine zr_get (ci := 4) G hw 138 0 zi_4 rfl rfl rfl (by decide) zm_143 (fun _ h => h) (v := .ref (ad 10)) rfl d_Explorer_wakeAll_30 ?_
          refine lv_bipush (v := 16) hx hb d_Explorer_wakeAll_33 (by decide) ?_
          refine lv_iload hx hb d_Explorer_wakeAll_35 (lv_at hl 4 rfl) ?_
          refine lv_iadd hx hb d_Explorer_wakeAll_37 ?_
          refine lv_iconst (v := 2) hx hb d_Explorer_wakeAll_38 (by decide) ?_
          obtain ⟨σ11, hc13, hf⟩ := zq_ds hf
          refine zr_cv hw (zr_runV (rest := []) (ci := 3) (o := 10) G hw [.int (16 + x4), .int 2] (zc_States_set hJ hc13) (cwV 2 hts (zs_gV zm_165 zm_166 zm_167 zm_39 zm_164) rfl rfl rfl (by decide +kernel) ⟨Nat.le_trans (by decide) hR1, Nat.le_trans (by decide) hR2⟩) rfl rfl rfl hl.1 (Nat.le_of_ble_eq_true rfl) d_Explorer_wakeAll_39 ⟨Nat.zero_le _, Nat.zero_le _⟩) (fun H locs hw => ?_)
          exact K42 (zf_Explorer_wakeAll_3 F n) ih x1 x2 x3 x4 σ11 H locs ls hf hw (lv_sub hl [0, 1, 2, 3, 4] rfl)
  unfold zf_Explorer_wakeAll at hf
  refine lv_iconst (v := 0) hx hb d_Explorer_wakeAll_0 (by decide) ?_
  refine lv_istore hx hb d_Explorer_wakeAll_1 hl (by decide) rfl (fun ls hl => ?_)
  have hl : lv_has ls 5 [(4, .int 0), (0, .ref (ad 138)), (1, .int x1), (2, .int x2), (3, .ref (ad x3))] := hl
  exact K3 F x1 x2 x3 0 σ H locs ls hf hw (lv_sub hl [1, 2, 3, 4, 0] rfl)
/-! ScheduleCheck$Explorer.assertThat -/
def y_Explorer_assertThat : MethodName := ⟨"ScheduleCheck$Explorer","assertThat","(IILScheduleCheck$Statement;)V"⟩
theorem d_Explorer_assertThat_0 : decode prog_4_method_7_code 0 = .ok (.aload_n 0, 1) := by decide +kernel
theorem d_Explorer_assertThat_1 : decode prog_4_method_7_code 1 = .ok (.iload_n 1, 1) := by decide +kernel
theorem d_Explorer_assertThat_2 : decode prog_4_method_7_code 2 = .ok (.aload_n 3, 1) := by decide +kernel
theorem d_Explorer_assertThat_3 : decode prog_4_method_7_code 3 = .ok (.invokevirtual 120, 3) := by decide +kernel
theorem d_Explorer_assertThat_6 : decode prog_4_method_7_code 6 = .ok (.ifCond .ne 13, 3) := by decide +kernel
theorem d_Explorer_assertThat_9 : decode prog_4_method_7_code 9 = .ok (.aload_n 0, 1) := by decide +kernel
theorem d_Explorer_assertThat_10 : decode prog_4_method_7_code 10 = .ok (.iload_n 1, 1) := by decide +kernel
theorem d_Explorer_assertThat_11 : decode prog_4_method_7_code 11 = .ok (.iload_n 2, 1) := by decide +kernel
theorem d_Explorer_assertThat_12 : decode prog_4_method_7_code 12 = .ok (.iconst 1, 1) := by decide +kernel
theorem d_Explorer_assertThat_13 : decode prog_4_method_7_code 13 = .ok (.invokevirtual 108, 3) := by decide +kernel
theorem d_Explorer_assertThat_16 : decode prog_4_method_7_code 16 = .ok (.goto 13, 3) := by decide +kernel
theorem d_Explorer_assertThat_19 : decode prog_4_method_7_code 19 = .ok (.aload_n 0, 1) := by decide +kernel
theorem d_Explorer_assertThat_20 : decode prog_4_method_7_code 20 = .ok (.iload_n 1, 1) := by decide +kernel
theorem d_Explorer_assertThat_21 : decode prog_4_method_7_code 21 = .ok (.iload_n 2, 1) := by decide +kernel
theorem d_Explorer_assertThat_22 : decode prog_4_method_7_code 22 = .ok (.aload_n 3, 1) := by decide +kernel
theorem d_Explorer_assertThat_23 : decode prog_4_method_7_code 23 = .ok (.getfield 97, 3) := by decide +kernel
theorem d_Explorer_assertThat_26 : decode prog_4_method_7_code 26 = .ok (.invokevirtual 100, 3) := by decide +kernel
theorem d_Explorer_assertThat_29 : decode prog_4_method_7_code 29 = .ok (.return_, 1) := by decide +kernel
def zf_Explorer_assertThat_29 (F : Nat)   (σ : zs_S) : Option (zs_S) :=
  some σ
def zf_Explorer_assertThat (F : Nat) (x1 : Int32) (x2 : Int32) (x3 : Nat) (σ : zs_S) : Option (zs_S) :=
  zq_c (zf_Explorer_resultIn F x1 x3 σ) fun r2 σ1 =>
  if r2 = 0 then (
    zq_d (zf_Explorer_err F x1 x2 1 σ1) fun σ8 =>
    zf_Explorer_assertThat_29 F σ8
  ) else (
    zq_g (zq_k 0 x3 16) <|
    zq_d (zf_Explorer_go F x1 x2 (zs_i σ1 x3 7) σ1) fun σ5 =>
    zf_Explorer_assertThat_29 F σ5
  )
set_option maxHeartbeats 4000000 in
set_option maxRecDepth 100000 in
theorem zc_Explorer_assertThat {l : Launch} {D : va_G} {cA : Nat → ClassId} {ad : Nat → Nat} {A : Nat → Prop} {F : Nat} {x1 : Int32} {x2 : Int32} {x3 : Nat} {σ : zs_S} {q : zs_S} (hJ : zs_J ad) (hf : zf_Explorer_assertThat F x1 x2 x3 σ = some q) : Met l y_Explorer_assertThat (.code y_Explorer_assertThat prog_4_method_7_code 4 none :: zd_ww) { frames := 4, cells := 0, slots := 0, locals := 92 } (va_Pc [.ref (ad 138), .int x1, .int x2, .ref (ad x3)] (zs_U 0 D cA ad A σ)) (zs_Qv 0 D cA ad A q) 0 0 A := by
  refine Met.ofW (cc := prog_4_method_7_code) (maxL := 4) (ret := none) (by decide) rfl ?_
  intro p e s m args below meth c s₁ B hml hv
  obtain ⟨hargs, hP, hK, hD, hZ⟩ := hv
  have G : zs_G 0 p s m args c prog_4_method_7_code 4 "ScheduleCheck$Explorer" D cA ad A := ⟨⟨B.exec, B.bytes, hml, findClass_of_methodNamed B.named, fun w h => atoms_spec B.pre w (List.mem_cons_of_mem _ h)⟩, hK, hJ, hZ⟩
  have hw : zs_I 0 D cA ad A s σ s.heap [] := ⟨hP, hD, va_S.rf⟩
  have hx := G.1.1
  have hb := G.1.2.1
  have hown := G.1.2.2.2.1
  have hts := G.1.2.2.2.2
  have hr := B.returns
  have hlocks := B.notSynchronized
  have he : entryFrame m args 4 = F0 m 0 ((lg_sl [.ref (ad 138), .int x1, .int x2, .ref (ad x3)] ++ List.replicate (4 - (lg_sl [.ref (ad 138), .int x1, .int x2, .ref (ad x3)]).length) Slot.unset).toArray) [] := by rw [hargs]; exact lg_entry_eq m _ 4
  have hl := lv_entry [.ref (ad 138), .int x1, .int x2, .ref (ad x3)] (n := 4) (Nat.le_of_ble_eq_true rfl)
  rw [he]
  generalize (lg_sl [.ref (ad 138), .int x1, .int x2, .ref (ad x3)] ++ List.replicate (4 - (lg_sl [.ref (ad 138), .int x1, .int x2, .ref (ad x3)]).length) Slot.unset).toArray = ls at hl
  have hl : lv_has ls 4 [(0, .ref (ad 138)), (1, .int x1), (2, .int x2), (3, .ref (ad x3))] := hl
  obtain ⟨RR, hR⟩ : ∃ z, z = (headSpec (.code y_Explorer_assertThat prog_4_method_7_code 4 none :: zd_ww) { frames := 4, cells := 0, slots := 0, locals := 92 }).room := ⟨_, rfl⟩
  rw [← hR]
  obtain ⟨QQ, hQ⟩ : ∃ z, z = MQ below (zs_Qv 0 D cA ad A q) args s 0 0 A := ⟨_, rfl⟩
  rw [← hQ]
  have hR1 : 4 ≤ RR.frames := by rw [hR]; exact Nat.le_refl _
  have hR2 : 92 ≤ RR.locals := by rw [hR]; exact Nat.le_refl _
  generalize s.heap = H at hw ⊢
  generalize ([] : List Loc) = locs at hw ⊢
  have K29 : ∀ (σ : zs_S) (H : Heap) (locs : List Loc) (ls : Array Slot), zf_Explorer_assertThat_29 F σ = some q → zs_I 0 D cA ad A s σ H locs → lv_has ls 4 [] → W p l e RR s m args below meth c H locs 0 0 QQ (F0 m 29 ls []) := by
    intro   σ H locs ls hf hw hl
    unfold zf_Explorer_assertThat_29 at hf
    exact zr_vret G hw hr hlocks hf hQ d_Explorer_assertThat_29
  unfold zf_Explorer_assertThat at hf
  refine lv_aload_n hx hb d_Explorer_assertThat_0 rfl (lv_at hl 0 rfl) ?_
  refine lv_iload_n hx hb d_Explorer_assertThat_1 rfl (lv_at hl 1 rfl) ?_
  refine lv_aload_n hx hb d_Explorer_assertThat_2 rfl (lv_at hl 3 rfl) ?_
  obtain ⟨r2, σ1, hc3, hf⟩ := zq_cs hf
  refine zr_ci hw (zr_runV (rest := []) (ci := 4) (o := 138) G hw [.int x1, .ref (ad x3)] (zc_Explorer_resultIn hJ hc3) (cwV 2 hts (zs_gV zm_187 zm_188 zm_189 zm_152 zm_186) rfl rfl rfl (by decide +kernel) ⟨Nat.le_trans (by decide) hR1, Nat.le_trans (by decide) hR2⟩) rfl rfl rfl hl.1 (Nat.le_of_ble_eq_true rfl) d_Explorer_assertThat_3 ⟨Nat.zero_le _, Nat.zero_le _⟩) (fun H locs hw => ?_)
  refine lv_if_ne hx hb d_Explorer_assertThat_6 (tgt := 19) rfl (fun hc => ?_) (fun hc => ?_)
  · have hf := (if_neg hc).symm.trans hf
    refine lv_aload_n hx hb d_Explorer_assertThat_19 rfl (lv_at hl 0 rfl) ?_
    refine lv_iload_n hx hb d_Explorer_assertThat_20 rfl (lv_at hl 1 rfl) ?_
    refine lv_iload_n hx hb d_Explorer_assertThat_21 rfl (lv_at hl 2 rfl) ?_
    refine lv_aload_n hx hb d_Explorer_assertThat_22 rfl (lv_at hl 3 rfl) ?_
    obtain ⟨hs4, hf⟩ := zq_gs hf
    have hs4 := zq_ks hs4
    refine zr_get (ci := 6) G hw x3 7 zi_6 hs4 rfl rfl (by decide) zm_173 (fun _ h => h) (v := .int (zs_i σ1 x3 7)) rfl d_Explorer_assertThat_23 ?_
    obtain ⟨σ5, hc7, hf⟩ := zq_ds hf
    refine zr_cv hw (zr_runV (rest := []) (ci := 4) (o := 138) G hw [.int x1, .int x2, .int (zs_i σ1 x3 7)] (zc_Explorer_go hJ hc7) (cwV 3 hts (zs_gV zm_175 zm_176 zm_177 zm_152 zm_174) rfl rfl rfl (by decide +kernel) ⟨Nat.le_trans (by decide) hR1, Nat.le_trans (by decide) hR2⟩) rfl rfl rfl hl.1 (Nat.le_of_ble_eq_true rfl) d_Explorer_assertThat_26 ⟨Nat.zero_le _, Nat.zero_le _⟩) (fun H locs hw => ?_)
    exact K29 σ5 H locs ls hf hw (lv_sub hl [] rfl)
  · have hf := (if_pos hc).symm.trans hf
    refine lv_aload_n hx hb d_Explorer_assertThat_9 rfl (lv_at hl 0 rfl) ?_
    refine lv_iload_n hx hb d_Explorer_assertThat_10 rfl (lv_at hl 1 rfl) ?_
    refine lv_iload_n hx hb d_Explorer_assertThat_11 rfl (lv_at hl 2 rfl) ?_
    refine lv_iconst (v := 1) hx hb d_Explorer_assertThat_12 (by decide) ?_
    obtain ⟨σ8, hc10, hf⟩ := zq_ds hf
    refine zr_cv hw (zr_runV (rest := []) (ci := 4) (o := 138) G hw [.int x1, .int x2, .int 1] (zc_Explorer_err hJ hc10) (cwV 3 hts (zs_gV zm_191 zm_192 zm_193 zm_152 zm_190) rfl rfl rfl (by decide +kernel) ⟨Nat.le_trans (by decide) hR1, Nat.le_trans (by decide) hR2⟩) rfl rfl rfl hl.1 (Nat.le_of_ble_eq_true rfl) d_Explorer_assertThat_13 ⟨Nat.zero_le _, Nat.zero_le _⟩) (fun H locs hw => ?_)
    refine lv_goto hx hb d_Explorer_assertThat_16 (tgt := 29) rfl ?_
    exact K29 σ8 H locs ls hf hw (lv_sub hl [] rfl)
/-! ScheduleCheck$Explorer.takeStep -/
def y_Explorer_takeStep : MethodName := ⟨"ScheduleCheck$Explorer","takeStep","(II)V"⟩
theorem d_Explorer_takeStep_0 : decode prog_4_method_6_code 0 = .ok (.aload_n 0, 1) := by decide +kernel
theorem d_Explorer_takeStep_1 : decode prog_4_method_6_code 1 = .ok (.iload_n 1, 1) := by decide +kernel
theorem d_Explorer_takeStep_2 : decode prog_4_method_6_code 2 = .ok (.iload_n 2, 1) := by decide +kernel
theorem d_Explorer_takeStep_3 : decode prog_4_method_6_code 3 = .ok (.invokevirtual 72, 3) := by decide +kernel
theorem d_Explorer_takeStep_6 : decode prog_4_method_6_code 6 = .ok (.astore_n 3, 1) := by decide +kernel
theorem d_Explorer_takeStep_7 : decode prog_4_method_6_code 7 = .ok (.aload_n 0, 1) := by decide +kernel
theorem d_Explorer_takeStep_8 : decode prog_4_method_6_code 8 = .ok (.getfield 9, 3) := by decide +kernel
theorem d_Explorer_takeStep_11 : decode prog_4_method_6_code 11 = .ok (.iload_n 1, 1) := by decide +kernel
theorem d_Explorer_takeStep_12 : decode prog_4_method_6_code 12 = .ok (.invokevirtual 94, 3) := by decide +kernel
theorem d_Explorer_takeStep_15 : decode prog_4_method_6_code 15 = .ok (.aload_n 0, 1) := by decide +kernel
theorem d_Explorer_takeStep_16 : decode prog_4_method_6_code 16 = .ok (.getfield 9, 3) := by decide +kernel
theorem d_Explorer_takeStep_19 : decode prog_4_method_6_code 19 = .ok (.iload_n 1, 1) := by decide +kernel
theorem d_Explorer_takeStep_20 : decode prog_4_method_6_code 20 = .ok (.bipush 16, 2) := by decide +kernel
theorem d_Explorer_takeStep_22 : decode prog_4_method_6_code 22 = .ok (.iload_n 2, 1) := by decide +kernel
theorem d_Explorer_takeStep_23 : decode prog_4_method_6_code 23 = .ok (.iadd, 1) := by decide +kernel
theorem d_Explorer_takeStep_24 : decode prog_4_method_6_code 24 = .ok (.invokevirtual 39, 3) := by decide +kernel
theorem d_Explorer_takeStep_27 : decode prog_4_method_6_code 27 = .ok (.iconst 2, 1) := by decide +kernel
theorem d_Explorer_takeStep_28 : decode prog_4_method_6_code 28 = .ok (.if_icmp .ne 38, 3) := by decide +kernel
theorem d_Explorer_takeStep_31 : decode prog_4_method_6_code 31 = .ok (.aload_n 0, 1) := by decide +kernel
theorem d_Explorer_takeStep_32 : decode prog_4_method_6_code 32 = .ok (.getfield 9, 3) := by decide +kernel
theorem d_Explorer_takeStep_35 : decode prog_4_method_6_code 35 = .ok (.bipush 16, 2) := by decide +kernel
theorem d_Explorer_takeStep_37 : decode prog_4_method_6_code 37 = .ok (.iload_n 2, 1) := by decide +kernel
theorem d_Explorer_takeStep_38 : decode prog_4_method_6_code 38 = .ok (.iadd, 1) := by decide +kernel
theorem d_Explorer_takeStep_39 : decode prog_4_method_6_code 39 = .ok (.iconst 0, 1) := by decide +kernel
theorem d_Explorer_takeStep_40 : decode prog_4_method_6_code 40 = .ok (.invokevirtual 59, 3) := by decide +kernel
theorem d_Explorer_takeStep_43 : decode prog_4_method_6_code 43 = .ok (.aload_n 0, 1) := by decide +kernel
theorem d_Explorer_takeStep_44 : decode prog_4_method_6_code 44 = .ok (.getfield 9, 3) := by decide +kernel
theorem d_Explorer_takeStep_47 : decode prog_4_method_6_code 47 = .ok (.aload_n 3, 1) := by decide +kernel
theorem d_Explorer_takeStep_48 : decode prog_4_method_6_code 48 = .ok (.getfield 87, 3) := by decide +kernel
theorem d_Explorer_takeStep_51 : decode prog_4_method_6_code 51 = .ok (.iload_n 2, 1) := by decide +kernel
theorem d_Explorer_takeStep_52 : decode prog_4_method_6_code 52 = .ok (.invokevirtual 59, 3) := by decide +kernel
theorem d_Explorer_takeStep_55 : decode prog_4_method_6_code 55 = .ok (.aload_n 0, 1) := by decide +kernel
theorem d_Explorer_takeStep_56 : decode prog_4_method_6_code 56 = .ok (.iload_n 1, 1) := by decide +kernel
theorem d_Explorer_takeStep_57 : decode prog_4_method_6_code 57 = .ok (.iload_n 2, 1) := by decide +kernel
theorem d_Explorer_takeStep_58 : decode prog_4_method_6_code 58 = .ok (.aload_n 3, 1) := by decide +kernel
theorem d_Explorer_takeStep_59 : decode prog_4_method_6_code 59 = .ok (.getfield 97, 3) := by decide +kernel
theorem d_Explorer_takeStep_62 : decode prog_4_method_6_code 62 = .ok (.invokevirtual 100, 3) := by decide +kernel
theorem d_Explorer_takeStep_65 : decode prog_4_method_6_code 65 = .ok (.return_, 1) := by decide +kernel
theorem d_Explorer_takeStep_66 : decode prog_4_method_6_code 66 = .ok (.aload_n 3, 1) := by decide +kernel
theorem d_Explorer_takeStep_67 : decode prog_4_method_6_code 67 = .ok (.invokevirtual 104, 3) := by decide +kernel
theorem d_Explorer_takeStep_70 : decode prog_4_method_6_code 70 = .ok (.ifCond .eq 27, 3) := by decide +kernel
theorem d_Explorer_takeStep_73 : decode prog_4_method_6_code 73 = .ok (.aload_n 0, 1) := by decide +kernel
theorem d_Explorer_takeStep_74 : decode prog_4_method_6_code 74 = .ok (.getfield 9, 3) := by decide +kernel
theorem d_Explorer_takeStep_77 : decode prog_4_method_6_code 77 = .ok (.iload_n 1, 1) := by decide +kernel
theorem d_Explorer_takeStep_78 : decode prog_4_method_6_code 78 = .ok (.aload_n 3, 1) := by decide +kernel
theorem d_Explorer_takeStep_79 : decode prog_4_method_6_code 79 = .ok (.getfield 87, 3) := by decide +kernel
theorem d_Explorer_takeStep_82 : decode prog_4_method_6_code 82 = .ok (.invokevirtual 39, 3) := by decide +kernel
theorem d_Explorer_takeStep_85 : decode prog_4_method_6_code 85 = .ok (.iload_n 2, 1) := by decide +kernel
theorem d_Explorer_takeStep_86 : decode prog_4_method_6_code 86 = .ok (.if_icmp .eq 11, 3) := by decide +kernel
theorem d_Explorer_takeStep_89 : decode prog_4_method_6_code 89 = .ok (.aload_n 0, 1) := by decide +kernel
theorem d_Explorer_takeStep_90 : decode prog_4_method_6_code 90 = .ok (.iload_n 1, 1) := by decide +kernel
theorem d_Explorer_takeStep_91 : decode prog_4_method_6_code 91 = .ok (.iload_n 2, 1) := by decide +kernel
theorem d_Explorer_takeStep_92 : decode prog_4_method_6_code 92 = .ok (.iconst 2, 1) := by decide +kernel
theorem d_Explorer_takeStep_93 : decode prog_4_method_6_code 93 = .ok (.invokevirtual 108, 3) := by decide +kernel
theorem d_Explorer_takeStep_96 : decode prog_4_method_6_code 96 = .ok (.return_, 1) := by decide +kernel
theorem d_Explorer_takeStep_97 : decode prog_4_method_6_code 97 = .ok (.getstatic 111, 3) := by decide +kernel
theorem d_Explorer_takeStep_100 : decode prog_4_method_6_code 100 = .ok (.aload_n 3, 1) := by decide +kernel
theorem d_Explorer_takeStep_101 : decode prog_4_method_6_code 101 = .ok (.getfield 76, 3) := by decide +kernel
theorem d_Explorer_takeStep_104 : decode prog_4_method_6_code 104 = .ok (.invokevirtual 116, 3) := by decide +kernel
theorem d_Explorer_takeStep_107 : decode prog_4_method_6_code 107 = .ok (.iaload, 1) := by decide +kernel
theorem d_Explorer_takeStep_108 : decode prog_4_method_6_code 108 = .ok (.tableswitch 204 1 8 #[48, 78, 103, 128, 164, 174, 184, 194], 48) := by decide +kernel
theorem d_Explorer_takeStep_156 : decode prog_4_method_6_code 156 = .ok (.aload_n 0, 1) := by decide +kernel
theorem d_Explorer_takeStep_157 : decode prog_4_method_6_code 157 = .ok (.getfield 9, 3) := by decide +kernel
theorem d_Explorer_takeStep_160 : decode prog_4_method_6_code 160 = .ok (.aload_n 3, 1) := by decide +kernel
theorem d_Explorer_takeStep_161 : decode prog_4_method_6_code 161 = .ok (.getfield 87, 3) := by decide +kernel
theorem d_Explorer_takeStep_164 : decode prog_4_method_6_code 164 = .ok (.aload_n 0, 1) := by decide +kernel
theorem d_Explorer_takeStep_165 : decode prog_4_method_6_code 165 = .ok (.iload_n 1, 1) := by decide +kernel
theorem d_Explorer_takeStep_166 : decode prog_4_method_6_code 166 = .ok (.aload_n 3, 1) := by decide +kernel
theorem d_Explorer_takeStep_167 : decode prog_4_method_6_code 167 = .ok (.invokevirtual 120, 3) := by decide +kernel
theorem d_Explorer_takeStep_170 : decode prog_4_method_6_code 170 = .ok (.invokevirtual 59, 3) := by decide +kernel
theorem d_Explorer_takeStep_173 : decode prog_4_method_6_code 173 = .ok (.aload_n 0, 1) := by decide +kernel
theorem d_Explorer_takeStep_174 : decode prog_4_method_6_code 174 = .ok (.iload_n 1, 1) := by decide +kernel
theorem d_Explorer_takeStep_175 : decode prog_4_method_6_code 175 = .ok (.iload_n 2, 1) := by decide +kernel
theorem d_Explorer_takeStep_176 : decode prog_4_method_6_code 176 = .ok (.aload_n 3, 1) := by decide +kernel
theorem d_Explorer_takeStep_177 : decode prog_4_method_6_code 177 = .ok (.getfield 97, 3) := by decide +kernel
theorem d_Explorer_takeStep_180 : decode prog_4_method_6_code 180 = .ok (.invokevirtual 100, 3) := by decide +kernel
theorem d_Explorer_takeStep_183 : decode prog_4_method_6_code 183 = .ok (.goto 155, 3) := by decide +kernel
theorem d_Explorer_takeStep_186 : decode prog_4_method_6_code 186 = .ok (.aload_n 0, 1) := by decide +kernel
theorem d_Explorer_takeStep_187 : decode prog_4_method_6_code 187 = .ok (.getfield 9, 3) := by decide +kernel
theorem d_Explorer_takeStep_190 : decode prog_4_method_6_code 190 = .ok (.aload_n 3, 1) := by decide +kernel
theorem d_Explorer_takeStep_191 : decode prog_4_method_6_code 191 = .ok (.getfield 87, 3) := by decide +kernel
theorem d_Explorer_takeStep_194 : decode prog_4_method_6_code 194 = .ok (.iload_n 2, 1) := by decide +kernel
theorem d_Explorer_takeStep_195 : decode prog_4_method_6_code 195 = .ok (.invokevirtual 59, 3) := by decide +kernel
theorem d_Explorer_takeStep_198 : decode prog_4_method_6_code 198 = .ok (.aload_n 0, 1) := by decide +kernel
theorem d_Explorer_takeStep_199 : decode prog_4_method_6_code 199 = .ok (.iload_n 1, 1) := by decide +kernel
theorem d_Explorer_takeStep_200 : decode prog_4_method_6_code 200 = .ok (.iload_n 2, 1) := by decide +kernel
theorem d_Explorer_takeStep_201 : decode prog_4_method_6_code 201 = .ok (.aload_n 3, 1) := by decide +kernel
theorem d_Explorer_takeStep_202 : decode prog_4_method_6_code 202 = .ok (.getfield 97, 3) := by decide +kernel
theorem d_Explorer_takeStep_205 : decode prog_4_method_6_code 205 = .ok (.invokevirtual 100, 3) := by decide +kernel
theorem d_Explorer_takeStep_208 : decode prog_4_method_6_code 208 = .ok (.goto 130, 3) := by decide +kernel
theorem d_Explorer_takeStep_211 : decode prog_4_method_6_code 211 = .ok (.aload_n 0, 1) := by decide +kernel
theorem d_Explorer_takeStep_212 : decode prog_4_method_6_code 212 = .ok (.getfield 9, 3) := by decide +kernel
theorem d_Explorer_takeStep_215 : decode prog_4_method_6_code 215 = .ok (.aload_n 3, 1) := by decide +kernel
theorem d_Explorer_takeStep_216 : decode prog_4_method_6_code 216 = .ok (.getfield 87, 3) := by decide +kernel
theorem d_Explorer_takeStep_219 : decode prog_4_method_6_code 219 = .ok (.iconst (-1), 1) := by decide +kernel
theorem d_Explorer_takeStep_220 : decode prog_4_method_6_code 220 = .ok (.invokevirtual 59, 3) := by decide +kernel
theorem d_Explorer_takeStep_223 : decode prog_4_method_6_code 223 = .ok (.aload_n 0, 1) := by decide +kernel
theorem d_Explorer_takeStep_224 : decode prog_4_method_6_code 224 = .ok (.iload_n 1, 1) := by decide +kernel
theorem d_Explorer_takeStep_225 : decode prog_4_method_6_code 225 = .ok (.iload_n 2, 1) := by decide +kernel
theorem d_Explorer_takeStep_226 : decode prog_4_method_6_code 226 = .ok (.aload_n 3, 1) := by decide +kernel
theorem d_Explorer_takeStep_227 : decode prog_4_method_6_code 227 = .ok (.getfield 97, 3) := by decide +kernel
theorem d_Explorer_takeStep_230 : decode prog_4_method_6_code 230 = .ok (.invokevirtual 100, 3) := by decide +kernel
theorem d_Explorer_takeStep_233 : decode prog_4_method_6_code 233 = .ok (.goto 105, 3) := by decide +kernel
theorem d_Explorer_takeStep_236 : decode prog_4_method_6_code 236 = .ok (.aload_n 0, 1) := by decide +kernel
theorem d_Explorer_takeStep_237 : decode prog_4_method_6_code 237 = .ok (.getfield 9, 3) := by decide +kernel
theorem d_Explorer_takeStep_240 : decode prog_4_method_6_code 240 = .ok (.aload_n 3, 1) := by decide +kernel
theorem d_Explorer_takeStep_241 : decode prog_4_method_6_code 241 = .ok (.getfield 87, 3) := by decide +kernel
theorem d_Explorer_takeStep_244 : decode prog_4_method_6_code 244 = .ok (.iconst (-1), 1) := by decide +kernel
theorem d_Explorer_takeStep_245 : decode prog_4_method_6_code 245 = .ok (.invokevirtual 59, 3) := by decide +kernel
theorem d_Explorer_takeStep_248 : decode prog_4_method_6_code 248 = .ok (.aload_n 0, 1) := by decide +kernel
theorem d_Explorer_takeStep_249 : decode prog_4_method_6_code 249 = .ok (.getfield 9, 3) := by decide +kernel
theorem d_Explorer_takeStep_252 : decode prog_4_method_6_code 252 = .ok (.bipush 16, 2) := by decide +kernel
theorem d_Explorer_takeStep_254 : decode prog_4_method_6_code 254 = .ok (.iload_n 2, 1) := by decide +kernel
theorem d_Explorer_takeStep_255 : decode prog_4_method_6_code 255 = .ok (.iadd, 1) := by decide +kernel
theorem d_Explorer_takeStep_256 : decode prog_4_method_6_code 256 = .ok (.iconst 1, 1) := by decide +kernel
theorem d_Explorer_takeStep_257 : decode prog_4_method_6_code 257 = .ok (.invokevirtual 59, 3) := by decide +kernel
theorem d_Explorer_takeStep_260 : decode prog_4_method_6_code 260 = .ok (.aload_n 0, 1) := by decide +kernel
theorem d_Explorer_takeStep_261 : decode prog_4_method_6_code 261 = .ok (.getfield 9, 3) := by decide +kernel
theorem d_Explorer_takeStep_264 : decode prog_4_method_6_code 264 = .ok (.iload_n 1, 1) := by decide +kernel
theorem d_Explorer_takeStep_265 : decode prog_4_method_6_code 265 = .ok (.iload_n 2, 1) := by decide +kernel
theorem d_Explorer_takeStep_266 : decode prog_4_method_6_code 266 = .ok (.invokevirtual 27, 3) := by decide +kernel
theorem d_Explorer_takeStep_269 : decode prog_4_method_6_code 269 = .ok (.goto 69, 3) := by decide +kernel
theorem d_Explorer_takeStep_272 : decode prog_4_method_6_code 272 = .ok (.aload_n 0, 1) := by decide +kernel
theorem d_Explorer_takeStep_273 : decode prog_4_method_6_code 273 = .ok (.iload_n 1, 1) := by decide +kernel
theorem d_Explorer_takeStep_274 : decode prog_4_method_6_code 274 = .ok (.iload_n 2, 1) := by decide +kernel
theorem d_Explorer_takeStep_275 : decode prog_4_method_6_code 275 = .ok (.aload_n 3, 1) := by decide +kernel
theorem d_Explorer_takeStep_276 : decode prog_4_method_6_code 276 = .ok (.invokevirtual 124, 3) := by decide +kernel
theorem d_Explorer_takeStep_279 : decode prog_4_method_6_code 279 = .ok (.goto 59, 3) := by decide +kernel
theorem d_Explorer_takeStep_282 : decode prog_4_method_6_code 282 = .ok (.aload_n 0, 1) := by decide +kernel
theorem d_Explorer_takeStep_283 : decode prog_4_method_6_code 283 = .ok (.iload_n 1, 1) := by decide +kernel
theorem d_Explorer_takeStep_284 : decode prog_4_method_6_code 284 = .ok (.iload_n 2, 1) := by decide +kernel
theorem d_Explorer_takeStep_285 : decode prog_4_method_6_code 285 = .ok (.aload_n 3, 1) := by decide +kernel
theorem d_Explorer_takeStep_286 : decode prog_4_method_6_code 286 = .ok (.invokevirtual 128, 3) := by decide +kernel
theorem d_Explorer_takeStep_289 : decode prog_4_method_6_code 289 = .ok (.goto 49, 3) := by decide +kernel
theorem d_Explorer_takeStep_292 : decode prog_4_method_6_code 292 = .ok (.aload_n 0, 1) := by decide +kernel
theorem d_Explorer_takeStep_293 : decode prog_4_method_6_code 293 = .ok (.iload_n 1, 1) := by decide +kernel
theorem d_Explorer_takeStep_294 : decode prog_4_method_6_code 294 = .ok (.iload_n 2, 1) := by decide +kernel
theorem d_Explorer_takeStep_295 : decode prog_4_method_6_code 295 = .ok (.aload_n 3, 1) := by decide +kernel
theorem d_Explorer_takeStep_296 : decode prog_4_method_6_code 296 = .ok (.invokevirtual 131, 3) := by decide +kernel
theorem d_Explorer_takeStep_299 : decode prog_4_method_6_code 299 = .ok (.goto 39, 3) := by decide +kernel
theorem d_Explorer_takeStep_302 : decode prog_4_method_6_code 302 = .ok (.aload_n 0, 1) := by decide +kernel
theorem d_Explorer_takeStep_303 : decode prog_4_method_6_code 303 = .ok (.iload_n 1, 1) := by decide +kernel
theorem d_Explorer_takeStep_304 : decode prog_4_method_6_code 304 = .ok (.iload_n 2, 1) := by decide +kernel
theorem d_Explorer_takeStep_305 : decode prog_4_method_6_code 305 = .ok (.iconst (-1), 1) := by decide +kernel
theorem d_Explorer_takeStep_306 : decode prog_4_method_6_code 306 = .ok (.invokevirtual 100, 3) := by decide +kernel
theorem d_Explorer_takeStep_309 : decode prog_4_method_6_code 309 = .ok (.goto 29, 3) := by decide +kernel
theorem d_Explorer_takeStep_312 : decode prog_4_method_6_code 312 = .ok (.aload_n 0, 1) := by decide +kernel
theorem d_Explorer_takeStep_313 : decode prog_4_method_6_code 313 = .ok (.iload_n 1, 1) := by decide +kernel
theorem d_Explorer_takeStep_314 : decode prog_4_method_6_code 314 = .ok (.iload_n 2, 1) := by decide +kernel
theorem d_Explorer_takeStep_315 : decode prog_4_method_6_code 315 = .ok (.aload_n 0, 1) := by decide +kernel
theorem d_Explorer_takeStep_316 : decode prog_4_method_6_code 316 = .ok (.iload_n 1, 1) := by decide +kernel
theorem d_Explorer_takeStep_317 : decode prog_4_method_6_code 317 = .ok (.aload_n 3, 1) := by decide +kernel
theorem d_Explorer_takeStep_318 : decode prog_4_method_6_code 318 = .ok (.invokevirtual 120, 3) := by decide +kernel
theorem d_Explorer_takeStep_321 : decode prog_4_method_6_code 321 = .ok (.ifCond .eq 10, 3) := by decide +kernel
theorem d_Explorer_takeStep_324 : decode prog_4_method_6_code 324 = .ok (.aload_n 3, 1) := by decide +kernel
theorem d_Explorer_takeStep_325 : decode prog_4_method_6_code 325 = .ok (.getfield 134, 3) := by decide +kernel
theorem d_Explorer_takeStep_328 : decode prog_4_method_6_code 328 = .ok (.goto 7, 3) := by decide +kernel
theorem d_Explorer_takeStep_331 : decode prog_4_method_6_code 331 = .ok (.aload_n 3, 1) := by decide +kernel
theorem d_Explorer_takeStep_332 : decode prog_4_method_6_code 332 = .ok (.getfield 137, 3) := by decide +kernel
theorem d_Explorer_takeStep_335 : decode prog_4_method_6_code 335 = .ok (.invokevirtual 100, 3) := by decide +kernel
theorem d_Explorer_takeStep_338 : decode prog_4_method_6_code 338 = .ok (.return_, 1) := by decide +kernel
def zf_Explorer_takeStep_338 (F : Nat)   (σ : zs_S) : Option (zs_S) :=
  some σ
def zf_Explorer_takeStep_335 (F : Nat)  (t0 : Int32) (t1 : Int32) (t2 : Int32) (σ : zs_S) : Option (zs_S) :=
  zq_d (zf_Explorer_go F t2 t1 t0 σ) fun σ83 =>
  zf_Explorer_takeStep_338 F σ83
def zf_Explorer_takeStep_97 (F : Nat)  (x1 : Int32) (x2 : Int32) (x3 : Nat) (σ : zs_S) : Option (zs_S) :=
  zq_g (zq_k 0 x3 16) <|
  zq_q (zs_r σ x3 0) fun q31 =>
  zq_g (zq_kd q31) <|
  zq_c (zf_Enum_ordinal0 F q31 σ) fun r33 σ32 =>
  zq_g (zq_b r33 10) <|
  zq_v (zd_mk.getD (r33).toNatClampNeg 0) fun v37 =>
  if v37 = 1 then (
    zq_c (zf_Explorer_resultIn F x1 x3 σ32) fun r39 σ38 =>
    zq_d (zf_States_set F (zs_i σ32 x3 2) r39 σ38) fun σ41 =>
    zq_d (zf_Explorer_go F x1 x2 (zs_i σ41 x3 7) σ41) fun σ44 =>
    zf_Explorer_takeStep_338 F σ44
  ) else (
  if v37 = 2 then (
    zq_d (zf_States_set F (zs_i σ32 x3 2) x2 σ32) fun σ47 =>
    zq_d (zf_Explorer_go F x1 x2 (zs_i σ47 x3 7) σ47) fun σ50 =>
    zf_Explorer_takeStep_338 F σ50
  ) else (
  if v37 = 3 then (
    zq_d (zf_States_set F (zs_i σ32 x3 2) ((-1)) σ32) fun σ53 =>
    zq_d (zf_Explorer_go F x1 x2 (zs_i σ53 x3 7) σ53) fun σ56 =>
    zf_Explorer_takeStep_338 F σ56
  ) else (
  if v37 = 4 then (
    zq_d (zf_States_set F (zs_i σ32 x3 2) ((-1)) σ32) fun σ59 =>
    zq_d (zf_States_set F (16 + x2) 1 σ59) fun σ62 =>
    zq_d (zf_States_keep F x1 x2 σ62) fun σ65 =>
    zf_Explorer_takeStep_338 F σ65
  ) else (
  if v37 = 5 then (
    zq_d (zf_Explorer_wakeOne F x1 x2 x3 σ32) fun σ68 =>
    zf_Explorer_takeStep_338 F σ68
  ) else (
  if v37 = 6 then (
    zq_d (zf_Explorer_wakeAll F x1 x2 x3 σ32) fun σ71 =>
    zf_Explorer_takeStep_338 F σ71
  ) else (
  if v37 = 7 then (
    zq_d (zf_Explorer_assertThat F x1 x2 x3 σ32) fun σ74 =>
    zf_Explorer_takeStep_338 F σ74
  ) else (
  if v37 = 8 then (
    zq_d (zf_Explorer_go F x1 x2 ((-1)) σ32) fun σ77 =>
    zf_Explorer_takeStep_338 F σ77
  ) else (
    zq_c (zf_Explorer_resultIn F x1 x3 σ32) fun r81 σ80 =>
    if r81 = 0 then (
      zf_Explorer_takeStep_335 F (zs_i σ80 x3 6) x2 x1 σ80
    ) else (
      zf_Explorer_takeStep_335 F (zs_i σ80 x3 5) x2 x1 σ80
    )
  ))))))))
def zf_Explorer_takeStep (F : Nat) (x1 : Int32) (x2 : Int32) (σ : zs_S) : Option (zs_S) :=
  zq_c (zf_Explorer_nextOf F x1 x2 σ) fun r2 σ1 =>
  zq_d (zf_States_copy F x1 σ1) fun σ4 =>
  zq_c (zf_States_cell F x1 (16 + x2) σ4) fun r8 σ7 =>
  if r8 = 2 then (
    zq_d (zf_States_set F (16 + x2) 0 σ7) fun σ20 =>
    zq_g (zq_k 0 r2 16) <|
    zq_d (zf_States_set F (zs_i σ20 r2 2) x2 σ20) fun σ24 =>
    zq_d (zf_Explorer_go F x1 x2 (zs_i σ24 r2 7) σ24) fun σ27 =>
    some σ27
  ) else (
    zq_g (zq_k 0 r2 16) <|
    zq_c (zf_Statement_needsOwner F r2 σ7) fun r11 σ10 =>
    if r11 = 0 then (
      zf_Explorer_takeStep_97 F x1 x2 r2 σ10
    ) else (
      zq_c (zf_States_cell F x1 (zs_i σ10 r2 2) σ10) fun r15 σ14 =>
      if r15 = x2 then (
        zf_Explorer_takeStep_97 F x1 x2 r2 σ14
      ) else (
        zq_d (zf_Explorer_err F x1 x2 2 σ14) fun σ17 =>
        some σ17
      )
    )
  )
set_option maxHeartbeats 4000000 in
set_option maxRecDepth 100000 in
theorem zc_Explorer_takeStep {l : Launch} {D : va_G} {cA : Nat → ClassId} {ad : Nat → Nat} {A : Nat → Prop} {F : Nat} {x1 : Int32} {x2 : Int32} {σ : zs_S} {q : zs_S} (hJ : zs_J ad) (hf : zf_Explorer_takeStep F x1 x2 σ = some q) : Met l y_Explorer_takeStep (.code y_Explorer_takeStep prog_4_method_6_code 4 none :: zd_ww) { frames := 5, cells := 0, slots := 0, locals := 117 } (va_Pc [.ref (ad 138), .int x1, .int x2] (zs_U 0 D cA ad A σ)) (zs_Qv 0 D cA ad A q) 0 0 A := by
  refine Met.ofW (cc := prog_4_method_6_code) (maxL := 4) (ret := none) (by decide) rfl ?_
  intro p e s m args below meth c s₁ B hml hv
  obtain ⟨hargs, hP, hK, hD, hZ⟩ := hv
  have G : zs_G 0 p s m args c prog_4_method_6_code 4 "ScheduleCheck$Explorer" D cA ad A := ⟨⟨B.exec, B.bytes, hml, findClass_of_methodNamed B.named, fun w h => atoms_spec B.pre w (List.mem_cons_of_mem _ h)⟩, hK, hJ, hZ⟩
  have hw : zs_I 0 D cA ad A s σ s.heap [] := ⟨hP, hD, va_S.rf⟩
  have hx := G.1.1
  have hb := G.1.2.1
  have hown := G.1.2.2.2.1
  have hts := G.1.2.2.2.2
  have hr := B.returns
  have hlocks := B.notSynchronized
  have he : entryFrame m args 4 = F0 m 0 ((lg_sl [.ref (ad 138), .int x1, .int x2] ++ List.replicate (4 - (lg_sl [.ref (ad 138), .int x1, .int x2]).length) Slot.unset).toArray) [] := by rw [hargs]; exact lg_entry_eq m _ 4
  have hl := lv_entry [.ref (ad 138), .int x1, .int x2] (n := 4) (Nat.le_of_ble_eq_true rfl)
  rw [he]
  generalize (lg_sl [.ref (ad 138), .int x1, .int x2] ++ List.replicate (4 - (lg_sl [.ref (ad 138), .int x1, .int x2]).length) Slot.unset).toArray = ls at hl
  have hl : lv_has ls 4 [(0, .ref (ad 138)), (1, .int x1), (2, .int x2)] := hl
  obtain ⟨RR, hR⟩ : ∃ z, z = (headSpec (.code y_Explorer_takeStep prog_4_method_6_code 4 none :: zd_ww) { frames := 5, cells := 0, slots := 0, locals := 117 }).room := ⟨_, rfl⟩
  rw [← hR]
  obtain ⟨QQ, hQ⟩ : ∃ z, z = MQ below (zs_Qv 0 D cA ad A q) args s 0 0 A := ⟨_, rfl⟩
  rw [← hQ]
  have hR1 : 5 ≤ RR.frames := by rw [hR]; exact Nat.le_refl _
  have hR2 : 117 ≤ RR.locals := by rw [hR]; exact Nat.le_refl _
  generalize s.heap = H at hw ⊢
  generalize ([] : List Loc) = locs at hw ⊢
  have K338 : ∀ (σ : zs_S) (H : Heap) (locs : List Loc) (ls : Array Slot), zf_Explorer_takeStep_338 F σ = some q → zs_I 0 D cA ad A s σ H locs → lv_has ls 4 [] → W p l e RR s m args below meth c H locs 0 0 QQ (F0 m 338 ls []) := by
    intro   σ H locs ls hf hw hl
    unfold zf_Explorer_takeStep_338 at hf
    exact zr_vret G hw hr hlocks hf hQ d_Explorer_takeStep_338
  have K335 : ∀ (t0 : Int32) (t1 : Int32) (t2 : Int32) (σ : zs_S) (H : Heap) (locs : List Loc) (ls : Array Slot), zf_Explorer_takeStep_335 F t0 t1 t2 σ = some q → zs_I 0 D cA ad A s σ H locs → lv_has ls 4 [] → W p l e RR s m args below meth c H locs 0 0 QQ (F0 m 335 ls [.int t0, .int t1, .int t2, .ref (ad 138)]) := by
    intro  t0 t1 t2 σ H locs ls hf hw hl
    unfold zf_Explorer_takeStep_335 at hf
    obtain ⟨σ83, hc85, hf⟩ := zq_ds hf
    refine zr_cv hw (zr_runV (rest := []) (ci := 4) (o := 138) G hw [.int t2, .int t1, .int t0] (zc_Explorer_go hJ hc85) (cwV 3 hts (zs_gV zm_175 zm_176 zm_177 zm_152 zm_174) rfl rfl rfl (by decide +kernel) ⟨Nat.le_trans (by decide) hR1, Nat.le_trans (by decide) hR2⟩) rfl rfl rfl hl.1 (Nat.le_of_ble_eq_true rfl) d_Explorer_takeStep_335 ⟨Nat.zero_le _, Nat.zero_le _⟩) (fun H locs hw => ?_)
    exact K338 σ83 H locs ls hf hw (lv_sub hl [] rfl)
  have K97 : ∀ (x1 : Int32) (x2 : Int32) (x3 : Nat) (σ : zs_S) (H : Heap) (locs : List Loc) (ls : Array Slot), zf_Explorer_takeStep_97 F x1 x2 x3 σ = some q → zs_I 0 D cA ad A s σ H locs → lv_has ls 4 [(0, .ref (ad 138)), (1, .int x1), (2, .int x2), (3, .ref (ad x3))] → W p l e RR s m args below meth c H locs 0 0 QQ (F0 m 97 ls []) := by
    intro  x1 x2 x3 σ H locs ls hf hw hl
    unfold zf_Explorer_takeStep_97 at hf
    refine va_gets (C := "ScheduleCheck$1") (n := "$SwitchMap$ScheduleCheck$Kind") (d := "[I") (v := .ref (ad 1202)) hx hb (G.2.2.2.1 rfl).2.2.2.2.2.2.2.1 hw.2.2 hown (hts _ zm_199) (fun _ h => h) d_Explorer_takeStep_97 ?_
    refine lv_aload_n hx hb d_Explorer_takeStep_100 rfl (lv_at hl 3 rfl) ?_
    obtain ⟨hs30, hf⟩ := zq_gs hf
    have hs30 := zq_ks hs30
    obtain ⟨q31, e_q31, h_q31, hf⟩ := zq_qs hf
    refine zr_get (ci := 6) G hw x3 0 zi_6 hs30 rfl rfl (by decide) zm_153 (fun _ h => h) (v := .ref (ad q31)) (zs_fr rfl e_q31 h_q31) d_Explorer_takeStep_101 ?_
    obtain ⟨ht35, hf⟩ := zq_gs hf
    obtain ⟨r33, σ32, hc34, hf⟩ := zq_cs hf
    refine zr_ci hw (zr_runU (rest := [.ref (ad 1202)]) (C := "ScheduleCheck$Kind") G hw [] (zc_Enum_ordinal0 hJ hc34) (va_cwU 0 hts (zs_gU zm_200 zm_201 zm_202 zm_127 zm_128 zm_123) rfl rfl rfl rfl (by decide +kernel) ⟨Nat.le_trans (by decide) hR1, Nat.le_trans (by decide) hR2⟩) (zr_kin G hw ht35) rfl hl.1 (Nat.le_of_ble_eq_true rfl) d_Explorer_takeStep_104 ⟨Nat.zero_le _, Nat.zero_le _⟩) (fun H locs hw => ?_)
    obtain ⟨hi36, hf⟩ := zq_gs hf
    refine va_ti (v := .int (zd_mk.getD (r33).toNatClampNeg 0)) hx hb (G.2.2.2.1 rfl).2.2.2.2.2.2.2.2.1 hw.2.2 (zq_bs hi36) rfl d_Explorer_takeStep_107 ?_
    refine lv_topi (fun v37 e_v37 => ?_)
    have hf := zq_vs e_v37 hf
    by_cases hc1 : v37 = 1
    · have hf := (if_pos hc1).symm.trans hf
      refine lv_tableIn hx hb d_Explorer_takeStep_108 (tgt := 156) (by rw [hc1]; decide) (by rw [hc1]; decide) (by rw [hc1]; rfl) rfl ?_
      refine lv_aload_n hx hb d_Explorer_takeStep_156 rfl (lv_at hl 0 rfl) ?_
      refine zr_get (ci := 4) G hw 138 0 zi_4 rfl rfl rfl (by decide) zm_143 (fun _ h => h) (v := .ref (ad 10)) rfl d_Explorer_takeStep_157 ?_
      refine lv_aload_n hx hb d_Explorer_takeStep_160 rfl (lv_at hl 3 rfl) ?_
      refine zr_get (ci := 6) G hw x3 2 zi_6 hs30 rfl rfl (by decide) zm_155 (fun _ h => h) (v := .int (zs_i σ32 x3 2)) rfl d_Explorer_takeStep_161 ?_
      refine lv_aload_n hx hb d_Explorer_takeStep_164 rfl (lv_at hl 0 rfl) ?_
      refine lv_iload_n hx hb d_Explorer_takeStep_165 rfl (lv_at hl 1 rfl) ?_
      refine lv_aload_n hx hb d_Explorer_takeStep_166 rfl (lv_at hl 3 rfl) ?_
      obtain ⟨r39, σ38, hc40, hf⟩ := zq_cs hf
      refine zr_ci hw (zr_runV (rest := [.int (zs_i σ32 x3 2), .ref (ad 10)]) (ci := 4) (o := 138) G hw [.int x1, .ref (ad x3)] (zc_Explorer_resultIn hJ hc40) (cwV 2 hts (zs_gV zm_187 zm_188 zm_189 zm_152 zm_186) rfl rfl rfl (by decide +kernel) ⟨Nat.le_trans (by decide) hR1, Nat.le_trans (by decide) hR2⟩) rfl rfl rfl hl.1 (Nat.le_of_ble_eq_true rfl) d_Explorer_takeStep_167 ⟨Nat.zero_le _, Nat.zero_le _⟩) (fun H locs hw => ?_)
      obtain ⟨σ41, hc43, hf⟩ := zq_ds hf
      refine zr_cv hw (zr_runV (rest := []) (ci := 3) (o := 10) G hw [.int (zs_i σ32 x3 2), .int r39] (zc_States_set hJ hc43) (cwV 2 hts (zs_gV zm_165 zm_166 zm_167 zm_39 zm_164) rfl rfl rfl (by decide +kernel) ⟨Nat.le_trans (by decide) hR1, Nat.le_trans (by decide) hR2⟩) rfl rfl rfl hl.1 (Nat.le_of_ble_eq_true rfl) d_Explorer_takeStep_170 ⟨Nat.zero_le _, Nat.zero_le _⟩) (fun H locs hw => ?_)
      refine lv_aload_n hx hb d_Explorer_takeStep_173 rfl (lv_at hl 0 rfl) ?_
      refine lv_iload_n hx hb d_Explorer_takeStep_174 rfl (lv_at hl 1 rfl) ?_
      refine lv_iload_n hx hb d_Explorer_takeStep_175 rfl (lv_at hl 2 rfl) ?_
      refine lv_aload_n hx hb d_Explorer_takeStep_176 rfl (lv_at hl 3 rfl) ?_
      refine zr_get (ci := 6) G hw x3 7 zi_6 hs30 rfl rfl (by decide) zm_173 (fun _ h => h) (v := .int (zs_i σ41 x3 7)) rfl d_Explorer_takeStep_177 ?_
      obtain ⟨σ44, hc46, hf⟩ := zq_ds hf
      refine zr_cv hw (zr_runV (rest := []) (ci := 4) (o := 138) G hw [.int x1, .int x2, .int (zs_i σ41 x3 7)] (zc_Explorer_go hJ hc46) (cwV 3 hts (zs_gV zm_175 zm_176 zm_177 zm_152 zm_174) rfl rfl rfl (by decide +kernel) ⟨Nat.le_trans (by decide) hR1, Nat.le_trans (by decide) hR2⟩) rfl rfl rfl hl.1 (Nat.le_of_ble_eq_true rfl) d_Explorer_takeStep_180 ⟨Nat.zero_le _, Nat.zero_le _⟩) (fun H locs hw => ?_)
      refine lv_goto hx hb d_Explorer_takeStep_183 (tgt := 338) rfl ?_
      exact K338 σ44 H locs ls hf hw (lv_sub hl [] rfl)
    have hf := (if_neg hc1).symm.trans hf
    by_cases hc2 : v37 = 2
    · have hf := (if_pos hc2).symm.trans hf
      refine lv_tableIn hx hb d_Explorer_takeStep_108 (tgt := 186) (by rw [hc2]; decide) (by rw [hc2]; decide) (by rw [hc2]; rfl) rfl ?_
      refine lv_aload_n hx hb d_Explorer_takeStep_186 rfl (lv_at hl 0 rfl) ?_
      refine zr_get (ci := 4) G hw 138 0 zi_4 rfl rfl rfl (by decide) zm_143 (fun _ h => h) (v := .ref (ad 10)) rfl d_Explorer_takeStep_187 ?_
      refine lv_aload_n hx hb d_Explorer_takeStep_190 rfl (lv_at hl 3 rfl) ?_
      refine zr_get (ci := 6) G hw x3 2 zi_6 hs30 rfl rfl (by decide) zm_155 (fun _ h => h) (v := .int (zs_i σ32 x3 2)) rfl d_Explorer_takeStep_191 ?_
      refine lv_iload_n hx hb d_Explorer_takeStep_194 rfl (lv_at hl 2 rfl) ?_
      obtain ⟨σ47, hc49, hf⟩ := zq_ds hf
      refine zr_cv hw (zr_runV (rest := []) (ci := 3) (o := 10) G hw [.int (zs_i σ32 x3 2), .int x2] (zc_States_set hJ hc49) (cwV 2 hts (zs_gV zm_165 zm_166 zm_167 zm_39 zm_164) rfl rfl rfl (by decide +kernel) ⟨Nat.le_trans (by decide) hR1, Nat.le_trans (by decide) hR2⟩) rfl rfl rfl hl.1 (Nat.le_of_ble_eq_true rfl) d_Explorer_takeStep_195 ⟨Nat.zero_le _, Nat.zero_le _⟩) (fun H locs hw => ?_)
      refine lv_aload_n hx hb d_Explorer_takeStep_198 rfl (lv_at hl 0 rfl) ?_
      refine lv_iload_n hx hb d_Explorer_takeStep_199 rfl (lv_at hl 1 rfl) ?_
      refine lv_iload_n hx hb d_Explorer_takeStep_200 rfl (lv_at hl 2 rfl) ?_
      refine lv_aload_n hx hb d_Explorer_takeStep_201 rfl (lv_at hl 3 rfl) ?_
      refine zr_get (ci := 6) G hw x3 7 zi_6 hs30 rfl rfl (by decide) zm_173 (fun _ h => h) (v := .int (zs_i σ47 x3 7)) rfl d_Explorer_takeStep_202 ?_
      obtain ⟨σ50, hc52, hf⟩ := zq_ds hf
      refine zr_cv hw (zr_runV (rest := []) (ci := 4) (o := 138) G hw [.int x1, .int x2, .int (zs_i σ47 x3 7)] (zc_Explorer_go hJ hc52) (cwV 3 hts (zs_gV zm_175 zm_176 zm_177 zm_152 zm_174) rfl rfl rfl (by decide +kernel) ⟨Nat.le_trans (by decide) hR1, Nat.le_trans (by decide) hR2⟩) rfl rfl rfl hl.1 (Nat.le_of_ble_eq_true rfl) d_Explorer_takeStep_205 ⟨Nat.zero_le _, Nat.zero_le _⟩) (fun H locs hw => ?_)
      refine lv_goto hx hb d_Explorer_takeStep_208 (tgt := 338) rfl ?_
      exact K338 σ50 H locs ls hf hw (lv_sub hl [] rfl)
    have hf := (if_neg hc2).symm.trans hf
    by_cases hc3 : v37 = 3
    · have hf := (if_pos hc3).symm.trans hf
      refine lv_tableIn hx hb d_Explorer_takeStep_108 (tgt := 211) (by rw [hc3]; decide) (by rw [hc3]; decide) (by rw [hc3]; rfl) rfl ?_
      refine lv_aload_n hx hb d_Explorer_takeStep_211 rfl (lv_at hl 0 rfl) ?_
      refine zr_get (ci := 4) G hw 138 0 zi_4 rfl rfl rfl (by decide) zm_143 (fun _ h => h) (v := .ref (ad 10)) rfl d_Explorer_takeStep_212 ?_
      refine lv_aload_n hx hb d_Explorer_takeStep_215 rfl (lv_at hl 3 rfl) ?_
      refine zr_get (ci := 6) G hw x3 2 zi_6 hs30 rfl rfl (by decide) zm_155 (fun _ h => h) (v := .int (zs_i σ32 x3 2)) rfl d_Explorer_takeStep_216 ?_
      refine lv_iconst (v := (-1)) hx hb d_Explorer_takeStep_219 (by decide) ?_
      obtain ⟨σ53, hc55, hf⟩ := zq_ds hf
      refine zr_cv hw (zr_runV (rest := []) (ci := 3) (o := 10) G hw [.int (zs_i σ32 x3 2), .int ((-1))] (zc_States_set hJ hc55) (cwV 2 hts (zs_gV zm_165 zm_166 zm_167 zm_39 zm_164) rfl rfl rfl (by decide +kernel) ⟨Nat.le_trans (by decide) hR1, Nat.le_trans (by decide) hR2⟩) rfl rfl rfl hl.1 (Nat.le_of_ble_eq_true rfl) d_Explorer_takeStep_220 ⟨Nat.zero_le _, Nat.zero_le _⟩) (fun H locs hw => ?_)
      refine lv_aload_n hx hb d_Explorer_takeStep_223 rfl (lv_at hl 0 rfl) ?_
      refine lv_iload_n hx hb d_Explorer_takeStep_224 rfl (lv_at hl 1 rfl) ?_
      refine lv_iload_n hx hb d_Explorer_takeStep_225 rfl (lv_at hl 2 rfl) ?_
      refine lv_aload_n hx hb d_Explorer_takeStep_226 rfl (lv_at hl 3 rfl) ?_
      refine zr_get (ci := 6) G hw x3 7 zi_6 hs30 rfl rfl (by decide) zm_173 (fun _ h => h) (v := .int (zs_i σ53 x3 7)) rfl d_Explorer_takeStep_227 ?_
      obtain ⟨σ56, hc58, hf⟩ := zq_ds hf
      refine zr_cv hw (zr_runV (rest := []) (ci := 4) (o := 138) G hw [.int x1, .int x2, .int (zs_i σ53 x3 7)] (zc_Explorer_go hJ hc58) (cwV 3 hts (zs_gV zm_175 zm_176 zm_177 zm_152 zm_174) rfl rfl rfl (by decide +kernel) ⟨Nat.le_trans (by decide) hR1, Nat.le_trans (by decide) hR2⟩) rfl rfl rfl hl.1 (Nat.le_of_ble_eq_true rfl) d_Explorer_takeStep_230 ⟨Nat.zero_le _, Nat.zero_le _⟩) (fun H locs hw => ?_)
      refine lv_goto hx hb d_Explorer_takeStep_233 (tgt := 338) rfl ?_
      exact K338 σ56 H locs ls hf hw (lv_sub hl [] rfl)
    have hf := (if_neg hc3).symm.trans hf
    by_cases hc4 : v37 = 4
    · have hf := (if_pos hc4).symm.trans hf
      refine lv_tableIn hx hb d_Explorer_takeStep_108 (tgt := 236) (by rw [hc4]; decide) (by rw [hc4]; decide) (by rw [hc4]; rfl) rfl ?_
      refine lv_aload_n hx hb d_Explorer_takeStep_236 rfl (lv_at hl 0 rfl) ?_
      refine zr_get (ci := 4) G hw 138 0 zi_4 rfl rfl rfl (by decide) zm_143 (fun _ h => h) (v := .ref (ad 10)) rfl d_Explorer_takeStep_237 ?_
      refine lv_aload_n hx hb d_Explorer_takeStep_240 rfl (lv_at hl 3 rfl) ?_
      refine zr_get (ci := 6) G hw x3 2 zi_6 hs30 rfl rfl (by decide) zm_155 (fun _ h => h) (v := .int (zs_i σ32 x3 2)) rfl d_Explorer_takeStep_241 ?_
      refine lv_iconst (v := (-1)) hx hb d_Explorer_takeStep_244 (by decide) ?_
      obtain ⟨σ59, hc61, hf⟩ := zq_ds hf
      refine zr_cv hw (zr_runV (rest := []) (ci := 3) (o := 10) G hw [.int (zs_i σ32 x3 2), .int ((-1))] (zc_States_set hJ hc61) (cwV 2 hts (zs_gV zm_165 zm_166 zm_167 zm_39 zm_164) rfl rfl rfl (by decide +kernel) ⟨Nat.le_trans (by decide) hR1, Nat.le_trans (by decide) hR2⟩) rfl rfl rfl hl.1 (Nat.le_of_ble_eq_true rfl) d_Explorer_takeStep_245 ⟨Nat.zero_le _, Nat.zero_le _⟩) (fun H locs hw => ?_)
      refine lv_aload_n hx hb d_Explorer_takeStep_248 rfl (lv_at hl 0 rfl) ?_
      refine zr_get (ci := 4) G hw 138 0 zi_4 rfl rfl rfl (by decide) zm_143 (fun _ h => h) (v := .ref (ad 10)) rfl d_Explorer_takeStep_249 ?_
      refine lv_bipush (v := 16) hx hb d_Explorer_takeStep_252 (by decide) ?_
      refine lv_iload_n hx hb d_Explorer_takeStep_254 rfl (lv_at hl 2 rfl) ?_
      refine lv_iadd hx hb d_Explorer_takeStep_255 ?_
      refine lv_iconst (v := 1) hx hb d_Explorer_takeStep_256 (by decide) ?_
      obtain ⟨σ62, hc64, hf⟩ := zq_ds hf
      refine zr_cv hw (zr_runV (rest := []) (ci := 3) (o := 10) G hw [.int (16 + x2), .int 1] (zc_States_set hJ hc64) (cwV 2 hts (zs_gV zm_165 zm_166 zm_167 zm_39 zm_164) rfl rfl rfl (by decide +kernel) ⟨Nat.le_trans (by decide) hR1, Nat.le_trans (by decide) hR2⟩) rfl rfl rfl hl.1 (Nat.le_of_ble_eq_true rfl) d_Explorer_takeStep_257 ⟨Nat.zero_le _, Nat.zero_le _⟩) (fun H locs hw => ?_)
      refine lv_aload_n hx hb d_Explorer_takeStep_260 rfl (lv_at hl 0 rfl) ?_
      refine zr_get (ci := 4) G hw 138 0 zi_4 rfl rfl rfl (by decide) zm_143 (fun _ h => h) (v := .ref (ad 10)) rfl d_Explorer_takeStep_261 ?_
      refine lv_iload_n hx hb d_Explorer_takeStep_264 rfl (lv_at hl 1 rfl) ?_
      refine lv_iload_n hx hb d_Explorer_takeStep_265 rfl (lv_at hl 2 rfl) ?_
      obtain ⟨σ65, hc67, hf⟩ := zq_ds hf
      refine zr_cv hw (zr_runV (rest := []) (ci := 3) (o := 10) G hw [.int x1, .int x2] (zc_States_keep hJ hc67) (cwV 2 hts (zs_gV zm_169 zm_170 zm_171 zm_39 zm_168) rfl rfl rfl (by decide +kernel) ⟨Nat.le_trans (by decide) hR1, Nat.le_trans (by decide) hR2⟩) rfl rfl rfl hl.1 (Nat.le_of_ble_eq_true rfl) d_Explorer_takeStep_266 ⟨Nat.zero_le _, Nat.zero_le _⟩) (fun H locs hw => ?_)
      refine lv_goto hx hb d_Explorer_takeStep_269 (tgt := 338) rfl ?_
      exact K338 σ65 H locs ls hf hw (lv_sub hl [] rfl)
    have hf := (if_neg hc4).symm.trans hf
    by_cases hc5 : v37 = 5
    · have hf := (if_pos hc5).symm.trans hf
      refine lv_tableIn hx hb d_Explorer_takeStep_108 (tgt := 272) (by rw [hc5]; decide) (by rw [hc5]; decide) (by rw [hc5]; rfl) rfl ?_
      refine lv_aload_n hx hb d_Explorer_takeStep_272 rfl (lv_at hl 0 rfl) ?_
      refine lv_iload_n hx hb d_Explorer_takeStep_273 rfl (lv_at hl 1 rfl) ?_
      refine lv_iload_n hx hb d_Explorer_takeStep_274 rfl (lv_at hl 2 rfl) ?_
      refine lv_aload_n hx hb d_Explorer_takeStep_275 rfl (lv_at hl 3 rfl) ?_
      obtain ⟨σ68, hc70, hf⟩ := zq_ds hf
      refine zr_cv hw (zr_runV (rest := []) (ci := 4) (o := 138) G hw [.int x1, .int x2, .ref (ad x3)] (zc_Explorer_wakeOne hJ hc70) (cwV 3 hts (zs_gV zm_204 zm_205 zm_206 zm_152 zm_203) rfl rfl rfl (by decide +kernel) ⟨Nat.le_trans (by decide) hR1, Nat.le_trans (by decide) hR2⟩) rfl rfl rfl hl.1 (Nat.le_of_ble_eq_true rfl) d_Explorer_takeStep_276 ⟨Nat.zero_le _, Nat.zero_le _⟩) (fun H locs hw => ?_)
      refine lv_goto hx hb d_Explorer_takeStep_279 (tgt := 338) rfl ?_
      exact K338 σ68 H locs ls hf hw (lv_sub hl [] rfl)
    have hf := (if_neg hc5).symm.trans hf
    by_cases hc6 : v37 = 6
    · have hf := (if_pos hc6).symm.trans hf
      refine lv_tableIn hx hb d_Explorer_takeStep_108 (tgt := 282) (by rw [hc6]; decide) (by rw [hc6]; decide) (by rw [hc6]; rfl) rfl ?_
      refine lv_aload_n hx hb d_Explorer_takeStep_282 rfl (lv_at hl 0 rfl) ?_
      refine lv_iload_n hx hb d_Explorer_takeStep_283 rfl (lv_at hl 1 rfl) ?_
      refine lv_iload_n hx hb d_Explorer_takeStep_284 rfl (lv_at hl 2 rfl) ?_
      refine lv_aload_n hx hb d_Explorer_takeStep_285 rfl (lv_at hl 3 rfl) ?_
      obtain ⟨σ71, hc73, hf⟩ := zq_ds hf
      refine zr_cv hw (zr_runV (rest := []) (ci := 4) (o := 138) G hw [.int x1, .int x2, .ref (ad x3)] (zc_Explorer_wakeAll hJ hc73) (cwV 3 hts (zs_gV zm_208 zm_209 zm_210 zm_152 zm_207) rfl rfl rfl (by decide +kernel) ⟨Nat.le_trans (by decide) hR1, Nat.le_trans (by decide) hR2⟩) rfl rfl rfl hl.1 (Nat.le_of_ble_eq_true rfl) d_Explorer_takeStep_286 ⟨Nat.zero_le _, Nat.zero_le _⟩) (fun H locs hw => ?_)
      refine lv_goto hx hb d_Explorer_takeStep_289 (tgt := 338) rfl ?_
      exact K338 σ71 H locs ls hf hw (lv_sub hl [] rfl)
    have hf := (if_neg hc6).symm.trans hf
    by_cases hc7 : v37 = 7
    · have hf := (if_pos hc7).symm.trans hf
      refine lv_tableIn hx hb d_Explorer_takeStep_108 (tgt := 292) (by rw [hc7]; decide) (by rw [hc7]; decide) (by rw [hc7]; rfl) rfl ?_
      refine lv_aload_n hx hb d_Explorer_takeStep_292 rfl (lv_at hl 0 rfl) ?_
      refine lv_iload_n hx hb d_Explorer_takeStep_293 rfl (lv_at hl 1 rfl) ?_
      refine lv_iload_n hx hb d_Explorer_takeStep_294 rfl (lv_at hl 2 rfl) ?_
      refine lv_aload_n hx hb d_Explorer_takeStep_295 rfl (lv_at hl 3 rfl) ?_
      obtain ⟨σ74, hc76, hf⟩ := zq_ds hf
      refine zr_cv hw (zr_runV (rest := []) (ci := 4) (o := 138) G hw [.int x1, .int x2, .ref (ad x3)] (zc_Explorer_assertThat hJ hc76) (cwV 3 hts (zs_gV zm_212 zm_213 zm_214 zm_152 zm_211) rfl rfl rfl (by decide +kernel) ⟨Nat.le_trans (by decide) hR1, Nat.le_trans (by decide) hR2⟩) rfl rfl rfl hl.1 (Nat.le_of_ble_eq_true rfl) d_Explorer_takeStep_296 ⟨Nat.zero_le _, Nat.zero_le _⟩) (fun H locs hw => ?_)
      refine lv_goto hx hb d_Explorer_takeStep_299 (tgt := 338) rfl ?_
      exact K338 σ74 H locs ls hf hw (lv_sub hl [] rfl)
    have hf := (if_neg hc7).symm.trans hf
    by_cases hc8 : v37 = 8
    · have hf := (if_pos hc8).symm.trans hf
      refine lv_tableIn hx hb d_Explorer_takeStep_108 (tgt := 302) (by rw [hc8]; decide) (by rw [hc8]; decide) (by rw [hc8]; rfl) rfl ?_
      refine lv_aload_n hx hb d_Explorer_takeStep_302 rfl (lv_at hl 0 rfl) ?_
      refine lv_iload_n hx hb d_Explorer_takeStep_303 rfl (lv_at hl 1 rfl) ?_
      refine lv_iload_n hx hb d_Explorer_takeStep_304 rfl (lv_at hl 2 rfl) ?_
      refine lv_iconst (v := (-1)) hx hb d_Explorer_takeStep_305 (by decide) ?_
      obtain ⟨σ77, hc79, hf⟩ := zq_ds hf
      refine zr_cv hw (zr_runV (rest := []) (ci := 4) (o := 138) G hw [.int x1, .int x2, .int ((-1))] (zc_Explorer_go hJ hc79) (cwV 3 hts (zs_gV zm_175 zm_176 zm_177 zm_152 zm_174) rfl rfl rfl (by decide +kernel) ⟨Nat.le_trans (by decide) hR1, Nat.le_trans (by decide) hR2⟩) rfl rfl rfl hl.1 (Nat.le_of_ble_eq_true rfl) d_Explorer_takeStep_306 ⟨Nat.zero_le _, Nat.zero_le _⟩) (fun H locs hw => ?_)
      refine lv_goto hx hb d_Explorer_takeStep_309 (tgt := 338) rfl ?_
      exact K338 σ77 H locs ls hf hw (lv_sub hl [] rfl)
    have hf := (if_neg hc8).symm.trans hf
    refine lv_tableOut hx hb d_Explorer_takeStep_108 (tgt := 312) (by have g1 := zq_o1 (lo := 1) (by decide) hc1; have g2 := zq_o1 (lo := 2) (by decide) hc2; have g3 := zq_o1 (lo := 3) (by decide) hc3; have g4 := zq_o1 (lo := 4) (by decide) hc4; have g5 := zq_o1 (lo := 5) (by decide) hc5; have g6 := zq_o1 (lo := 6) (by decide) hc6; have g7 := zq_o1 (lo := 7) (by decide) hc7; have g8 := zq_o1 (lo := 8) (by decide) hc8; omega) rfl ?_
    refine lv_aload_n hx hb d_Explorer_takeStep_312 rfl (lv_at hl 0 rfl) ?_
    refine lv_iload_n hx hb d_Explorer_takeStep_313 rfl (lv_at hl 1 rfl) ?_
    refine lv_iload_n hx hb d_Explorer_takeStep_314 rfl (lv_at hl 2 rfl) ?_
    refine lv_aload_n hx hb d_Explorer_takeStep_315 rfl (lv_at hl 0 rfl) ?_
    refine lv_iload_n hx hb d_Explorer_takeStep_316 rfl (lv_at hl 1 rfl) ?_
    refine lv_aload_n hx hb d_Explorer_takeStep_317 rfl (lv_at hl 3 rfl) ?_
    obtain ⟨r81, σ80, hc82, hf⟩ := zq_cs hf
    refine zr_ci hw (zr_runV (rest := [.int x2, .int x1, .ref (ad 138)]) (ci := 4) (o := 138) G hw [.int x1, .ref (ad x3)] (zc_Explorer_resultIn hJ hc82) (cwV 2 hts (zs_gV zm_187 zm_188 zm_189 zm_152 zm_186) rfl rfl rfl (by decide +kernel) ⟨Nat.le_trans (by decide) hR1, Nat.le_trans (by decide) hR2⟩) rfl rfl rfl hl.1 (Nat.le_of_ble_eq_true rfl) d_Explorer_takeStep_318 ⟨Nat.zero_le _, Nat.zero_le _⟩) (fun H locs hw => ?_)
    refine lv_if_eq hx hb d_Explorer_takeStep_321 (tgt := 331) rfl (fun hc => ?_) (fun hc => ?_)
    · have hf := (if_pos hc).symm.trans hf
      refine lv_aload_n hx hb d_Explorer_takeStep_331 rfl (lv_at hl 3 rfl) ?_
      refine zr_get (ci := 6) G hw x3 6 zi_6 hs30 rfl rfl (by decide) zm_215 (fun _ h => h) (v := .int (zs_i σ80 x3 6)) rfl d_Explorer_takeStep_332 ?_
      exact K335 (zs_i σ80 x3 6) x2 x1 σ80 H locs ls hf hw (lv_sub hl [] rfl)
    · have hf := (if_neg hc).symm.trans hf
      refine lv_aload_n hx hb d_Explorer_takeStep_324 rfl (lv_at hl 3 rfl) ?_
      refine zr_get (ci := 6) G hw x3 5 zi_6 hs30 rfl rfl (by decide) zm_216 (fun _ h => h) (v := .int (zs_i σ80 x3 5)) rfl d_Explorer_takeStep_325 ?_
      refine lv_goto hx hb d_Explorer_takeStep_328 (tgt := 335) rfl ?_
      exact K335 (zs_i σ80 x3 5) x2 x1 σ80 H locs ls hf hw (lv_sub hl [] rfl)
  unfold zf_Explorer_takeStep at hf
  refine lv_aload_n hx hb d_Explorer_takeStep_0 rfl (lv_at hl 0 rfl) ?_
  refine lv_iload_n hx hb d_Explorer_takeStep_1 rfl (lv_at hl 1 rfl) ?_
  refine lv_iload_n hx hb d_Explorer_takeStep_2 rfl (lv_at hl 2 rfl) ?_
  obtain ⟨r2, σ1, hc3, hf⟩ := zq_cs hf
  refine zr_cr hw (zr_runV (rest := []) (ci := 4) (o := 138) G hw [.int x1, .int x2] (zc_Explorer_nextOf hJ hc3) (cwV 2 hts (zs_gV zm_149 zm_150 zm_151 zm_152 zm_148) rfl rfl rfl (by decide +kernel) ⟨Nat.le_trans (by decide) hR1, Nat.le_trans (by decide) hR2⟩) rfl rfl rfl hl.1 (Nat.le_of_ble_eq_true rfl) d_Explorer_takeStep_3 ⟨Nat.zero_le _, Nat.zero_le _⟩) (fun H locs hw => ?_)
  refine lv_astore_n hx hb d_Explorer_takeStep_6 rfl hl (by decide) rfl (fun ls hl => ?_)
  have hl : lv_has ls 4 [(3, .ref (ad r2)), (0, .ref (ad 138)), (1, .int x1), (2, .int x2)] := hl
  refine lv_aload_n hx hb d_Explorer_takeStep_7 rfl (lv_at hl 1 rfl) ?_
  refine zr_get (ci := 4) G hw 138 0 zi_4 rfl rfl rfl (by decide) zm_143 (fun _ h => h) (v := .ref (ad 10)) rfl d_Explorer_takeStep_8 ?_
  refine lv_iload_n hx hb d_Explorer_takeStep_11 rfl (lv_at hl 2 rfl) ?_
  obtain ⟨σ4, hc6, hf⟩ := zq_ds hf
  refine zr_cv hw (zr_runV (rest := []) (ci := 3) (o := 10) G hw [.int x1] (zc_States_copy hJ hc6) (cwV 1 hts (zs_gV zm_183 zm_184 zm_185 zm_39 zm_182) rfl rfl rfl (by decide +kernel) ⟨Nat.le_trans (by decide) hR1, Nat.le_trans (by decide) hR2⟩) rfl rfl rfl hl.1 (Nat.le_of_ble_eq_true rfl) d_Explorer_takeStep_12 ⟨Nat.zero_le _, Nat.zero_le _⟩) (fun H locs hw => ?_)
  refine lv_aload_n hx hb d_Explorer_takeStep_15 rfl (lv_at hl 1 rfl) ?_
  refine zr_get (ci := 4) G hw 138 0 zi_4 rfl rfl rfl (by decide) zm_143 (fun _ h => h) (v := .ref (ad 10)) rfl d_Explorer_takeStep_16 ?_
  refine lv_iload_n hx hb d_Explorer_takeStep_19 rfl (lv_at hl 2 rfl) ?_
  refine lv_bipush (v := 16) hx hb d_Explorer_takeStep_20 (by decide) ?_
  refine lv_iload_n hx hb d_Explorer_takeStep_22 rfl (lv_at hl 3 rfl) ?_
  refine lv_iadd hx hb d_Explorer_takeStep_23 ?_
  obtain ⟨r8, σ7, hc9, hf⟩ := zq_cs hf
  refine zr_ci hw (zr_runV (rest := []) (ci := 3) (o := 10) G hw [.int x1, .int (16 + x2)] (zc_States_cell hJ hc9) (cwV 2 hts (zs_gV zm_145 zm_146 zm_147 zm_39 zm_144) rfl rfl rfl (by decide +kernel) ⟨Nat.le_trans (by decide) hR1, Nat.le_trans (by decide) hR2⟩) rfl rfl rfl hl.1 (Nat.le_of_ble_eq_true rfl) d_Explorer_takeStep_24 ⟨Nat.zero_le _, Nat.zero_le _⟩) (fun H locs hw => ?_)
  refine lv_iconst (v := 2) hx hb d_Explorer_takeStep_27 (by decide) ?_
  refine lv_icmp_ne hx hb d_Explorer_takeStep_28 (tgt := 66) rfl (fun hc => ?_) (fun hc => ?_)
  · have hf := (if_neg hc).symm.trans hf
    refine lv_aload_n hx hb d_Explorer_takeStep_66 rfl (lv_at hl 0 rfl) ?_
    obtain ⟨hs13, hf⟩ := zq_gs hf
    have hs13 := zq_ks hs13
    obtain ⟨r11, σ10, hc12, hf⟩ := zq_cs hf
    refine zr_ci hw (zr_runV (rest := []) (ci := 6) (o := r2) G hw [] (zc_Statement_needsOwner hJ hc12) (cwV 0 hts (zs_gV zm_195 zm_196 zm_197 zm_198 zm_194) rfl rfl rfl (by decide +kernel) ⟨Nat.le_trans (by decide) hR1, Nat.le_trans (by decide) hR2⟩) hs13 rfl rfl hl.1 (Nat.le_of_ble_eq_true rfl) d_Explorer_takeStep_67 ⟨Nat.zero_le _, Nat.zero_le _⟩) (fun H locs hw => ?_)
    refine lv_if_eq hx hb d_Explorer_takeStep_70 (tgt := 97) rfl (fun hc => ?_) (fun hc => ?_)
    · have hf := (if_pos hc).symm.trans hf
      exact K97 x1 x2 r2 σ10 H locs ls hf hw (lv_sub hl [1, 2, 3, 0] rfl)
    · have hf := (if_neg hc).symm.trans hf
      refine lv_aload_n hx hb d_Explorer_takeStep_73 rfl (lv_at hl 1 rfl) ?_
      refine zr_get (ci := 4) G hw 138 0 zi_4 rfl rfl rfl (by decide) zm_143 (fun _ h => h) (v := .ref (ad 10)) rfl d_Explorer_takeStep_74 ?_
      refine lv_iload_n hx hb d_Explorer_takeStep_77 rfl (lv_at hl 2 rfl) ?_
      refine lv_aload_n hx hb d_Explorer_takeStep_78 rfl (lv_at hl 0 rfl) ?_
      refine zr_get (ci := 6) G hw r2 2 zi_6 hs13 rfl rfl (by decide) zm_155 (fun _ h => h) (v := .int (zs_i σ10 r2 2)) rfl d_Explorer_takeStep_79 ?_
      obtain ⟨r15, σ14, hc16, hf⟩ := zq_cs hf
      refine zr_ci hw (zr_runV (rest := []) (ci := 3) (o := 10) G hw [.int x1, .int (zs_i σ10 r2 2)] (zc_States_cell hJ hc16) (cwV 2 hts (zs_gV zm_145 zm_146 zm_147 zm_39 zm_144) rfl rfl rfl (by decide +kernel) ⟨Nat.le_trans (by decide) hR1, Nat.le_trans (by decide) hR2⟩) rfl rfl rfl hl.1 (Nat.le_of_ble_eq_true rfl) d_Explorer_takeStep_82 ⟨Nat.zero_le _, Nat.zero_le _⟩) (fun H locs hw => ?_)
      refine lv_iload_n hx hb d_Explorer_takeStep_85 rfl (lv_at hl 3 rfl) ?_
      refine lv_icmp_eq hx hb d_Explorer_takeStep_86 (tgt := 97) rfl (fun hc => ?_) (fun hc => ?_)
      · have hf := (if_pos hc).symm.trans hf
        exact K97 x1 x2 r2 σ14 H locs ls hf hw (lv_sub hl [1, 2, 3, 0] rfl)
      · have hf := (if_neg hc).symm.trans hf
        refine lv_aload_n hx hb d_Explorer_takeStep_89 rfl (lv_at hl 1 rfl) ?_
        refine lv_iload_n hx hb d_Explorer_takeStep_90 rfl (lv_at hl 2 rfl) ?_
        refine lv_iload_n hx hb d_Explorer_takeStep_91 rfl (lv_at hl 3 rfl) ?_
        refine lv_iconst (v := 2) hx hb d_Explorer_takeStep_92 (by decide) ?_
        obtain ⟨σ17, hc19, hf⟩ := zq_ds hf
        refine zr_cv hw (zr_runV (rest := []) (ci := 4) (o := 138) G hw [.int x1, .int x2, .int 2] (zc_Explorer_err hJ hc19) (cwV 3 hts (zs_gV zm_191 zm_192 zm_193 zm_152 zm_190) rfl rfl rfl (by decide +kernel) ⟨Nat.le_trans (by decide) hR1, Nat.le_trans (by decide) hR2⟩) rfl rfl rfl hl.1 (Nat.le_of_ble_eq_true rfl) d_Explorer_takeStep_93 ⟨Nat.zero_le _, Nat.zero_le _⟩) (fun H locs hw => ?_)
        exact zr_vret G hw hr hlocks hf hQ d_Explorer_takeStep_96
  · have hf := (if_pos hc).symm.trans hf
    refine lv_aload_n hx hb d_Explorer_takeStep_31 rfl (lv_at hl 1 rfl) ?_
    refine zr_get (ci := 4) G hw 138 0 zi_4 rfl rfl rfl (by decide) zm_143 (fun _ h => h) (v := .ref (ad 10)) rfl d_Explorer_takeStep_32 ?_
    refine lv_bipush (v := 16) hx hb d_Explorer_takeStep_35 (by decide) ?_
    refine lv_iload_n hx hb d_Explorer_takeStep_37 rfl (lv_at hl 3 rfl) ?_
    refine lv_iadd hx hb d_Explorer_takeStep_38 ?_
    refine lv_iconst (v := 0) hx hb d_Explorer_takeStep_39 (by decide) ?_
    obtain ⟨σ20, hc22, hf⟩ := zq_ds hf
    refine zr_cv hw (zr_runV (rest := []) (ci := 3) (o := 10) G hw [.int (16 + x2), .int 0] (zc_States_set hJ hc22) (cwV 2 hts (zs_gV zm_165 zm_166 zm_167 zm_39 zm_164) rfl rfl rfl (by decide +kernel) ⟨Nat.le_trans (by decide) hR1, Nat.le_trans (by decide) hR2⟩) rfl rfl rfl hl.1 (Nat.le_of_ble_eq_true rfl) d_Explorer_takeStep_40 ⟨Nat.zero_le _, Nat.zero_le _⟩) (fun H locs hw => ?_)
    refine lv_aload_n hx hb d_Explorer_takeStep_43 rfl (lv_at hl 1 rfl) ?_
    refine zr_get (ci := 4) G hw 138 0 zi_4 rfl rfl rfl (by decide) zm_143 (fun _ h => h) (v := .ref (ad 10)) rfl d_Explorer_takeStep_44 ?_
    refine lv_aload_n hx hb d_Explorer_takeStep_47 rfl (lv_at hl 0 rfl) ?_
    obtain ⟨hs23, hf⟩ := zq_gs hf
    have hs23 := zq_ks hs23
    refine zr_get (ci := 6) G hw r2 2 zi_6 hs23 rfl rfl (by decide) zm_155 (fun _ h => h) (v := .int (zs_i σ20 r2 2)) rfl d_Explorer_takeStep_48 ?_
    refine lv_iload_n hx hb d_Explorer_takeStep_51 rfl (lv_at hl 3 rfl) ?_
    obtain ⟨σ24, hc26, hf⟩ := zq_ds hf
    refine zr_cv hw (zr_runV (rest := []) (ci := 3) (o := 10) G hw [.int (zs_i σ20 r2 2), .int x2] (zc_States_set hJ hc26) (cwV 2 hts (zs_gV zm_165 zm_166 zm_167 zm_39 zm_164) rfl rfl rfl (by decide +kernel) ⟨Nat.le_trans (by decide) hR1, Nat.le_trans (by decide) hR2⟩) rfl rfl rfl hl.1 (Nat.le_of_ble_eq_true rfl) d_Explorer_takeStep_52 ⟨Nat.zero_le _, Nat.zero_le _⟩) (fun H locs hw => ?_)
    refine lv_aload_n hx hb d_Explorer_takeStep_55 rfl (lv_at hl 1 rfl) ?_
    refine lv_iload_n hx hb d_Explorer_takeStep_56 rfl (lv_at hl 2 rfl) ?_
    refine lv_iload_n hx hb d_Explorer_takeStep_57 rfl (lv_at hl 3 rfl) ?_
    refine lv_aload_n hx hb d_Explorer_takeStep_58 rfl (lv_at hl 0 rfl) ?_
    refine zr_get (ci := 6) G hw r2 7 zi_6 hs23 rfl rfl (by decide) zm_173 (fun _ h => h) (v := .int (zs_i σ24 r2 7)) rfl d_Explorer_takeStep_59 ?_
    obtain ⟨σ27, hc29, hf⟩ := zq_ds hf
    refine zr_cv hw (zr_runV (rest := []) (ci := 4) (o := 138) G hw [.int x1, .int x2, .int (zs_i σ24 r2 7)] (zc_Explorer_go hJ hc29) (cwV 3 hts (zs_gV zm_175 zm_176 zm_177 zm_152 zm_174) rfl rfl rfl (by decide +kernel) ⟨Nat.le_trans (by decide) hR1, Nat.le_trans (by decide) hR2⟩) rfl rfl rfl hl.1 (Nat.le_of_ble_eq_true rfl) d_Explorer_takeStep_62 ⟨Nat.zero_le _, Nat.zero_le _⟩) (fun H locs hw => ?_)
    exact zr_vret G hw hr hlocks hf hQ d_Explorer_takeStep_65
/-! ScheduleCheck$Explorer.haveAllEnded -/
def y_Explorer_haveAllEnded : MethodName := ⟨"ScheduleCheck$Explorer","haveAllEnded","(I)Z"⟩
theorem d_Explorer_haveAllEnded_0 : decode prog_4_method_15_code 0 = .ok (.iconst 0, 1) := by decide +kernel
theorem d_Explorer_haveAllEnded_1 : decode prog_4_method_15_code 1 = .ok (.istore_n 2, 1) := by decide +kernel
theorem d_Explorer_haveAllEnded_2 : decode prog_4_method_15_code 2 = .ok (.iload_n 2, 1) := by decide +kernel
theorem d_Explorer_haveAllEnded_3 : decode prog_4_method_15_code 3 = .ok (.aload_n 0, 1) := by decide +kernel
theorem d_Explorer_haveAllEnded_4 : decode prog_4_method_15_code 4 = .ok (.getfield 15, 3) := by decide +kernel
theorem d_Explorer_haveAllEnded_7 : decode prog_4_method_15_code 7 = .ok (.getfield 43, 3) := by decide +kernel
theorem d_Explorer_haveAllEnded_10 : decode prog_4_method_15_code 10 = .ok (.if_icmp .ge 27, 3) := by decide +kernel
theorem d_Explorer_haveAllEnded_13 : decode prog_4_method_15_code 13 = .ok (.aload_n 0, 1) := by decide +kernel
theorem d_Explorer_haveAllEnded_14 : decode prog_4_method_15_code 14 = .ok (.getfield 9, 3) := by decide +kernel
theorem d_Explorer_haveAllEnded_17 : decode prog_4_method_15_code 17 = .ok (.iload_n 1, 1) := by decide +kernel
theorem d_Explorer_haveAllEnded_18 : decode prog_4_method_15_code 18 = .ok (.bipush 12, 2) := by decide +kernel
theorem d_Explorer_haveAllEnded_20 : decode prog_4_method_15_code 20 = .ok (.iload_n 2, 1) := by decide +kernel
theorem d_Explorer_haveAllEnded_21 : decode prog_4_method_15_code 21 = .ok (.iadd, 1) := by decide +kernel
theorem d_Explorer_haveAllEnded_22 : decode prog_4_method_15_code 22 = .ok (.invokevirtual 39, 3) := by decide +kernel
theorem d_Explorer_haveAllEnded_25 : decode prog_4_method_15_code 25 = .ok (.iconst (-1), 1) := by decide +kernel
theorem d_Explorer_haveAllEnded_26 : decode prog_4_method_15_code 26 = .ok (.if_icmp .eq 5, 3) := by decide +kernel
theorem d_Explorer_haveAllEnded_29 : decode prog_4_method_15_code 29 = .ok (.iconst 0, 1) := by decide +kernel
theorem d_Explorer_haveAllEnded_30 : decode prog_4_method_15_code 30 = .ok (.ireturn, 1) := by decide +kernel
theorem d_Explorer_haveAllEnded_31 : decode prog_4_method_15_code 31 = .ok (.iinc 2 1, 3) := by decide +kernel
theorem d_Explorer_haveAllEnded_34 : decode prog_4_method_15_code 34 = .ok (.goto (-32), 3) := by decide +kernel
theorem d_Explorer_haveAllEnded_37 : decode prog_4_method_15_code 37 = .ok (.iconst 1, 1) := by decide +kernel
theorem d_Explorer_haveAllEnded_38 : decode prog_4_method_15_code 38 = .ok (.ireturn, 1) := by decide +kernel
def zf_Explorer_haveAllEnded_2 (F : Nat)  : Nat → Int32 → Int32 → zs_S → Option (Int32 × zs_S)
  | 0, _, _, _ => none
  | n + 1, x1, x2, σ =>
    zq_q (zs_r σ 138 1) fun q1 =>
    zq_g (zq_k 0 q1 15) <|
    if (zs_i σ q1 2) ≤ x2 then (
      some (1, σ)
    ) else (
      zq_c (zf_States_cell F x1 (12 + x2) σ) fun r4 σ3 =>
      if r4 = ((-1)) then (
        zq_v (x2 + 1) fun v6 =>
        (zf_Explorer_haveAllEnded_2 F n) x1 v6 σ3
      ) else (
        some (0, σ3)
      )
    )
def zf_Explorer_haveAllEnded (F : Nat) (x1 : Int32) (σ : zs_S) : Option (Int32 × zs_S) :=
  zf_Explorer_haveAllEnded_2 F F x1 0 σ
set_option maxHeartbeats 4000000 in
set_option maxRecDepth 100000 in
theorem zc_Explorer_haveAllEnded {l : Launch} {D : va_G} {cA : Nat → ClassId} {ad : Nat → Nat} {A : Nat → Prop} {F : Nat} {x1 : Int32} {σ : zs_S} {q : Int32 × zs_S} (hJ : zs_J ad) (hf : zf_Explorer_haveAllEnded F x1 σ = some q) : Met l y_Explorer_haveAllEnded (.code y_Explorer_haveAllEnded prog_4_method_15_code 3 (some .boolean) :: zd_ww) { frames := 1, cells := 0, slots := 0, locals := 22 } (va_Pc [.ref (ad 138), .int x1] (zs_U 0 D cA ad A σ)) (zs_Qi 0 D cA ad A q) 0 0 A := by
  refine Met.ofW (cc := prog_4_method_15_code) (maxL := 3) (ret := (some .boolean)) (by decide) rfl ?_
  intro p e s m args below meth c s₁ B hml hv
  obtain ⟨hargs, hP, hK, hD, hZ⟩ := hv
  have G : zs_G 0 p s m args c prog_4_method_15_code 3 "ScheduleCheck$Explorer" D cA ad A := ⟨⟨B.exec, B.bytes, hml, findClass_of_methodNamed B.named, fun w h => atoms_spec B.pre w (List.mem_cons_of_mem _ h)⟩, hK, hJ, hZ⟩
  have hw : zs_I 0 D cA ad A s σ s.heap [] := ⟨hP, hD, va_S.rf⟩
  have hx := G.1.1
  have hb := G.1.2.1
  have hown := G.1.2.2.2.1
  have hts := G.1.2.2.2.2
  have hr := B.returns
  have hlocks := B.notSynchronized
  have he : entryFrame m args 3 = F0 m 0 ((lg_sl [.ref (ad 138), .int x1] ++ List.replicate (3 - (lg_sl [.ref (ad 138), .int x1]).length) Slot.unset).toArray) [] := by rw [hargs]; exact lg_entry_eq m _ 3
  have hl := lv_entry [.ref (ad 138), .int x1] (n := 3) (Nat.le_of_ble_eq_true rfl)
  rw [he]
  generalize (lg_sl [.ref (ad 138), .int x1] ++ List.replicate (3 - (lg_sl [.ref (ad 138), .int x1]).length) Slot.unset).toArray = ls at hl
  have hl : lv_has ls 3 [(0, .ref (ad 138)), (1, .int x1)] := hl
  obtain ⟨RR, hR⟩ : ∃ z, z = (headSpec (.code y_Explorer_haveAllEnded prog_4_method_15_code 3 (some .boolean) :: zd_ww) { frames := 1, cells := 0, slots := 0, locals := 22 }).room := ⟨_, rfl⟩
  rw [← hR]
  obtain ⟨QQ, hQ⟩ : ∃ z, z = MQ below (zs_Qi 0 D cA ad A q) args s 0 0 A := ⟨_, rfl⟩
  rw [← hQ]
  have hR1 : 1 ≤ RR.frames := by rw [hR]; exact Nat.le_refl _
  have hR2 : 22 ≤ RR.locals := by rw [hR]; exact Nat.le_refl _
  generalize s.heap = H at hw ⊢
  generalize ([] : List Loc) = locs at hw ⊢
  have K2 : ∀ (n : Nat) (x1 : Int32) (x2 : Int32) (σ : zs_S) (H : Heap) (locs : List Loc) (ls : Array Slot), zf_Explorer_haveAllEnded_2 F n x1 x2 σ = some q → zs_I 0 D cA ad A s σ H locs → lv_has ls 3 [(0, .ref (ad 138)), (1, .int x1), (2, .int x2)] → W p l e RR s m args below meth c H locs 0 0 QQ (F0 m 2 ls []) := by
    intro  n
    induction n with
    | zero => intro x1 x2 σ H locs ls hf hw hl; exact nomatch (show (none : Option (Int32 × zs_S)) = some q from hf)
    | succ n ih =>
      intro x1 x2 σ H locs ls hf hw hl
      rw [zf_Explorer_haveAllEnded_2] at hf
      refine lv_iload_n hx hb d_Explorer_haveAllEnded_2 rfl (lv_at hl 2 rfl) ?_
      refine lv_aload_n hx hb d_Explorer_haveAllEnded_3 rfl (lv_at hl 0 rfl) ?_
      obtain ⟨q1, e_q1, h_q1, hf⟩ := zq_qs hf
      refine zr_get (ci := 4) G hw 138 1 zi_4 rfl rfl rfl (by decide) zm_141 (fun _ h => h) (v := .ref (ad q1)) (zs_fr rfl e_q1 h_q1) d_Explorer_haveAllEnded_4 ?_
      obtain ⟨hs2, hf⟩ := zq_gs hf
      have hs2 := zq_ks hs2
      refine zr_get (ci := 5) G hw q1 2 zi_5 hs2 rfl rfl (by decide) zm_172 (fun _ h => h) (v := .int (zs_i σ q1 2)) rfl d_Explorer_haveAllEnded_7 ?_
      refine lv_icmp_ge hx hb d_Explorer_haveAllEnded_10 (tgt := 37) rfl (fun hc => ?_) (fun hc => ?_)
      · have hf := (if_pos hc).symm.trans hf
        refine lv_iconst (v := 1) hx hb d_Explorer_haveAllEnded_37 (by decide) ?_
        exact zr_zret G hw hr hlocks (by decide) hf hQ d_Explorer_haveAllEnded_38
      · have hf := (if_neg hc).symm.trans hf
        refine lv_aload_n hx hb d_Explorer_haveAllEnded_13 rfl (lv_at hl 0 rfl) ?_
        refine zr_get (ci := 4) G hw 138 0 zi_4 rfl rfl rfl (by decide) zm_143 (fun _ h => h) (v := .ref (ad 10)) rfl d_Explorer_haveAllEnded_14 ?_
        refine lv_iload_n hx hb d_Explorer_haveAllEnded_17 rfl (lv_at hl 1 rfl) ?_
        refine lv_bipush (v := 12) hx hb d_Explorer_haveAllEnded_18 (by decide) ?_
        refine lv_iload_n hx hb d_Explorer_haveAllEnded_20 rfl (lv_at hl 2 rfl) ?_
        refine lv_iadd hx hb d_Explorer_haveAllEnded_21 ?_
        obtain ⟨r4, σ3, hc5, hf⟩ := zq_cs hf
        refine zr_ci hw (zr_runV (rest := []) (ci := 3) (o := 10) G hw [.int x1, .int (12 + x2)] (zc_States_cell hJ hc5) (cwV 2 hts (zs_gV zm_145 zm_146 zm_147 zm_39 zm_144) rfl rfl rfl (by decide +kernel) ⟨Nat.le_trans (by decide) hR1, Nat.le_trans (by decide) hR2⟩) rfl rfl rfl hl.1 (Nat.le_of_ble_eq_true rfl) d_Explorer_haveAllEnded_22 ⟨Nat.zero_le _, Nat.zero_le _⟩) (fun H locs hw => ?_)
        refine lv_iconst (v := (-1)) hx hb d_Explorer_haveAllEnded_25 (by decide) ?_
        refine lv_icmp_eq hx hb d_Explorer_haveAllEnded_26 (tgt := 31) rfl (fun hc => ?_) (fun hc => ?_)
        · have hf := (if_pos hc).symm.trans hf
          obtain ⟨v6, e_v6, hf⟩ := zq_ss hf
          refine lv_iinc (v := v6) hx hb d_Explorer_haveAllEnded_31 hl (k := 2) rfl (zq_inc (k := 1) (by decide) e_v6) (by decide) rfl (fun ls hl => ?_)
          have hl : lv_has ls 3 [(2, .int v6), (0, .ref (ad 138)), (1, .int x1)] := hl
          refine lv_goto hx hb d_Explorer_haveAllEnded_34 (tgt := 2) rfl ?_
          exact ih x1 v6 σ3 H locs ls hf hw (lv_sub hl [1, 2, 0] rfl)
        · have hf := (if_neg hc).symm.trans hf
          refine lv_iconst (v := 0) hx hb d_Explorer_haveAllEnded_29 (by decide) ?_
          exact zr_zret G hw hr hlocks (by decide) hf hQ d_Explorer_haveAllEnded_30
  unfold zf_Explorer_haveAllEnded at hf
  refine lv_iconst (v := 0) hx hb d_Explorer_haveAllEnded_0 (by decide) ?_
  refine lv_istore_n hx hb d_Explorer_haveAllEnded_1 rfl hl (by decide) rfl (fun ls hl => ?_)
  have hl : lv_has ls 3 [(2, .int 0), (0, .ref (ad 138)), (1, .int x1)] := hl
  exact K2 F x1 0 σ H locs ls hf hw (lv_sub hl [1, 2, 0] rfl)
/-! ScheduleCheck$Explorer.isSort -/
def y_Explorer_isSort : MethodName := ⟨"ScheduleCheck$Explorer","isSort","(II)Z"⟩
theorem d_Explorer_isSort_0 : decode prog_4_method_14_code 0 = .ok (.aload_n 0, 1) := by decide +kernel
theorem d_Explorer_isSort_1 : decode prog_4_method_14_code 1 = .ok (.getfield 9, 3) := by decide +kernel
theorem d_Explorer_isSort_4 : decode prog_4_method_14_code 4 = .ok (.iload_n 1, 1) := by decide +kernel
theorem d_Explorer_isSort_5 : decode prog_4_method_14_code 5 = .ok (.bipush 32, 2) := by decide +kernel
theorem d_Explorer_isSort_7 : decode prog_4_method_14_code 7 = .ok (.invokevirtual 39, 3) := by decide +kernel
theorem d_Explorer_isSort_10 : decode prog_4_method_14_code 10 = .ok (.ifCond .eq 7, 3) := by decide +kernel
theorem d_Explorer_isSort_13 : decode prog_4_method_14_code 13 = .ok (.iconst 1, 1) := by decide +kernel
theorem d_Explorer_isSort_14 : decode prog_4_method_14_code 14 = .ok (.goto 4, 3) := by decide +kernel
theorem d_Explorer_isSort_17 : decode prog_4_method_14_code 17 = .ok (.iconst 0, 1) := by decide +kernel
theorem d_Explorer_isSort_18 : decode prog_4_method_14_code 18 = .ok (.istore_n 3, 1) := by decide +kernel
theorem d_Explorer_isSort_19 : decode prog_4_method_14_code 19 = .ok (.iload_n 2, 1) := by decide +kernel
theorem d_Explorer_isSort_20 : decode prog_4_method_14_code 20 = .ok (.iconst 2, 1) := by decide +kernel
theorem d_Explorer_isSort_21 : decode prog_4_method_14_code 21 = .ok (.if_icmp .eq 7, 3) := by decide +kernel
theorem d_Explorer_isSort_24 : decode prog_4_method_14_code 24 = .ok (.iload_n 3, 1) := by decide +kernel
theorem d_Explorer_isSort_25 : decode prog_4_method_14_code 25 = .ok (.ifCond .eq 18, 3) := by decide +kernel
theorem d_Explorer_isSort_28 : decode prog_4_method_14_code 28 = .ok (.iload_n 2, 1) := by decide +kernel
theorem d_Explorer_isSort_29 : decode prog_4_method_14_code 29 = .ok (.iconst 2, 1) := by decide +kernel
theorem d_Explorer_isSort_30 : decode prog_4_method_14_code 30 = .ok (.if_icmp .ne 11, 3) := by decide +kernel
theorem d_Explorer_isSort_33 : decode prog_4_method_14_code 33 = .ok (.iload_n 3, 1) := by decide +kernel
theorem d_Explorer_isSort_34 : decode prog_4_method_14_code 34 = .ok (.ifCond .eq 7, 3) := by decide +kernel
theorem d_Explorer_isSort_37 : decode prog_4_method_14_code 37 = .ok (.iconst 1, 1) := by decide +kernel
theorem d_Explorer_isSort_38 : decode prog_4_method_14_code 38 = .ok (.goto 4, 3) := by decide +kernel
theorem d_Explorer_isSort_41 : decode prog_4_method_14_code 41 = .ok (.iconst 0, 1) := by decide +kernel
theorem d_Explorer_isSort_42 : decode prog_4_method_14_code 42 = .ok (.ireturn, 1) := by decide +kernel
theorem d_Explorer_isSort_43 : decode prog_4_method_14_code 43 = .ok (.iload_n 2, 1) := by decide +kernel
theorem d_Explorer_isSort_44 : decode prog_4_method_14_code 44 = .ok (.ifCond .ne 9, 3) := by decide +kernel
theorem d_Explorer_isSort_47 : decode prog_4_method_14_code 47 = .ok (.aload_n 0, 1) := by decide +kernel
theorem d_Explorer_isSort_48 : decode prog_4_method_14_code 48 = .ok (.iload_n 1, 1) := by decide +kernel
theorem d_Explorer_isSort_49 : decode prog_4_method_14_code 49 = .ok (.invokevirtual 164, 3) := by decide +kernel
theorem d_Explorer_isSort_52 : decode prog_4_method_14_code 52 = .ok (.ireturn, 1) := by decide +kernel
theorem d_Explorer_isSort_53 : decode prog_4_method_14_code 53 = .ok (.aload_n 0, 1) := by decide +kernel
theorem d_Explorer_isSort_54 : decode prog_4_method_14_code 54 = .ok (.getfield 9, 3) := by decide +kernel
theorem d_Explorer_isSort_57 : decode prog_4_method_14_code 57 = .ok (.iload_n 1, 1) := by decide +kernel
theorem d_Explorer_isSort_58 : decode prog_4_method_14_code 58 = .ok (.invokevirtual 168, 3) := by decide +kernel
theorem d_Explorer_isSort_61 : decode prog_4_method_14_code 61 = .ok (.ifCond .ne 15, 3) := by decide +kernel
theorem d_Explorer_isSort_64 : decode prog_4_method_14_code 64 = .ok (.aload_n 0, 1) := by decide +kernel
theorem d_Explorer_isSort_65 : decode prog_4_method_14_code 65 = .ok (.iload_n 1, 1) := by decide +kernel
theorem d_Explorer_isSort_66 : decode prog_4_method_14_code 66 = .ok (.invokevirtual 164, 3) := by decide +kernel
theorem d_Explorer_isSort_69 : decode prog_4_method_14_code 69 = .ok (.ifCond .ne 7, 3) := by decide +kernel
theorem d_Explorer_isSort_72 : decode prog_4_method_14_code 72 = .ok (.iconst 1, 1) := by decide +kernel
theorem d_Explorer_isSort_73 : decode prog_4_method_14_code 73 = .ok (.goto 4, 3) := by decide +kernel
theorem d_Explorer_isSort_76 : decode prog_4_method_14_code 76 = .ok (.iconst 0, 1) := by decide +kernel
theorem d_Explorer_isSort_77 : decode prog_4_method_14_code 77 = .ok (.ireturn, 1) := by decide +kernel
def zf_Explorer_isSort_77 (F : Nat)  (t0 : Int32) (σ : zs_S) : Option (Int32 × zs_S) :=
  zq_g (zq_z t0) <|
  some (t0, σ)
def zf_Explorer_isSort_76 (F : Nat)   (σ : zs_S) : Option (Int32 × zs_S) :=
  zf_Explorer_isSort_77 F 0 σ
def zf_Explorer_isSort_42 (F : Nat)  (t0 : Int32) (σ : zs_S) : Option (Int32 × zs_S) :=
  zq_g (zq_z t0) <|
  some (t0, σ)
def zf_Explorer_isSort_41 (F : Nat)   (σ : zs_S) : Option (Int32 × zs_S) :=
  zf_Explorer_isSort_42 F 0 σ
def zf_Explorer_isSort_28 (F : Nat)  (x2 : Int32) (x3 : Int32) (σ : zs_S) : Option (Int32 × zs_S) :=
  if x2 = 2 then (
    if x3 = 0 then (
      zf_Explorer_isSort_41 F σ
    ) else (
      zf_Explorer_isSort_42 F 1 σ
    )
  ) else (
    zf_Explorer_isSort_41 F σ
  )
def zf_Explorer_isSort_18 (F : Nat)  (x1 : Int32) (x2 : Int32) (t0 : Int32) (σ : zs_S) : Option (Int32 × zs_S) :=
  if x2 = 2 then (
    zf_Explorer_isSort_28 F x2 t0 σ
  ) else (
    if t0 = 0 then (
      if x2 = 0 then (
        zq_c (zf_Explorer_haveAllEnded F x1 σ) fun r11 σ10 =>
        zq_g (zq_z r11) <|
        some (r11, σ10)
      ) else (
        zq_c (zf_States_stepsOf F x1 σ) fun r5 σ4 =>
        if r5 = 0 then (
          zq_c (zf_Explorer_haveAllEnded F x1 σ4) fun r8 σ7 =>
          if r8 = 0 then (
            zf_Explorer_isSort_77 F 1 σ7
          ) else (
            zf_Explorer_isSort_76 F σ7
          )
        ) else (
          zf_Explorer_isSort_76 F σ4
        )
      )
    ) else (
      zf_Explorer_isSort_28 F x2 t0 σ
    )
  )
def zf_Explorer_isSort (F : Nat) (x1 : Int32) (x2 : Int32) (σ : zs_S) : Option (Int32 × zs_S) :=
  zq_c (zf_States_cell F x1 32 σ) fun r2 σ1 =>
  if r2 = 0 then (
    zf_Explorer_isSort_18 F x1 x2 0 σ1
  ) else (
    zf_Explorer_isSort_18 F x1 x2 1 σ1
  )
set_option maxHeartbeats 4000000 in
set_option maxRecDepth 100000 in
theorem zc_Explorer_isSort {l : Launch} {D : va_G} {cA : Nat → ClassId} {ad : Nat → Nat} {A : Nat → Prop} {F : Nat} {x1 : Int32} {x2 : Int32} {σ : zs_S} {q : Int32 × zs_S} (hJ : zs_J ad) (hf : zf_Explorer_isSort F x1 x2 σ = some q) : Met l y_Explorer_isSort (.code y_Explorer_isSort prog_4_method_14_code 4 (some .boolean) :: zd_ww) { frames := 2, cells := 0, slots := 0, locals := 44 } (va_Pc [.ref (ad 138), .int x1, .int x2] (zs_U 0 D cA ad A σ)) (zs_Qi 0 D cA ad A q) 0 0 A := by
  refine Met.ofW (cc := prog_4_method_14_code) (maxL := 4) (ret := (some .boolean)) (by decide) rfl ?_
  intro p e s m args below meth c s₁ B hml hv
  obtain ⟨hargs, hP, hK, hD, hZ⟩ := hv
  have G : zs_G 0 p s m args c prog_4_method_14_code 4 "ScheduleCheck$Explorer" D cA ad A := ⟨⟨B.exec, B.bytes, hml, findClass_of_methodNamed B.named, fun w h => atoms_spec B.pre w (List.mem_cons_of_mem _ h)⟩, hK, hJ, hZ⟩
  have hw : zs_I 0 D cA ad A s σ s.heap [] := ⟨hP, hD, va_S.rf⟩
  have hx := G.1.1
  have hb := G.1.2.1
  have hown := G.1.2.2.2.1
  have hts := G.1.2.2.2.2
  have hr := B.returns
  have hlocks := B.notSynchronized
  have he : entryFrame m args 4 = F0 m 0 ((lg_sl [.ref (ad 138), .int x1, .int x2] ++ List.replicate (4 - (lg_sl [.ref (ad 138), .int x1, .int x2]).length) Slot.unset).toArray) [] := by rw [hargs]; exact lg_entry_eq m _ 4
  have hl := lv_entry [.ref (ad 138), .int x1, .int x2] (n := 4) (Nat.le_of_ble_eq_true rfl)
  rw [he]
  generalize (lg_sl [.ref (ad 138), .int x1, .int x2] ++ List.replicate (4 - (lg_sl [.ref (ad 138), .int x1, .int x2]).length) Slot.unset).toArray = ls at hl
  have hl : lv_has ls 4 [(0, .ref (ad 138)), (1, .int x1), (2, .int x2)] := hl
  obtain ⟨RR, hR⟩ : ∃ z, z = (headSpec (.code y_Explorer_isSort prog_4_method_14_code 4 (some .boolean) :: zd_ww) { frames := 2, cells := 0, slots := 0, locals := 44 }).room := ⟨_, rfl⟩
  rw [← hR]
  obtain ⟨QQ, hQ⟩ : ∃ z, z = MQ below (zs_Qi 0 D cA ad A q) args s 0 0 A := ⟨_, rfl⟩
  rw [← hQ]
  have hR1 : 2 ≤ RR.frames := by rw [hR]; exact Nat.le_refl _
  have hR2 : 44 ≤ RR.locals := by rw [hR]; exact Nat.le_refl _
  generalize s.heap = H at hw ⊢
  generalize ([] : List Loc) = locs at hw ⊢
  have K77 : ∀ (t0 : Int32) (σ : zs_S) (H : Heap) (locs : List Loc) (ls : Array Slot), zf_Explorer_isSort_77 F t0 σ = some q → zs_I 0 D cA ad A s σ H locs → lv_has ls 4 [] → W p l e RR s m args below meth c H locs 0 0 QQ (F0 m 77 ls [.int t0]) := by
    intro  t0 σ H locs ls hf hw hl
    unfold zf_Explorer_isSort_77 at hf
    obtain ⟨hz, hf⟩ := zq_gs hf
    exact zr_zret G hw hr hlocks hz hf hQ d_Explorer_isSort_77
  have K76 : ∀ (σ : zs_S) (H : Heap) (locs : List Loc) (ls : Array Slot), zf_Explorer_isSort_76 F σ = some q → zs_I 0 D cA ad A s σ H locs → lv_has ls 4 [] → W p l e RR s m args below meth c H locs 0 0 QQ (F0 m 76 ls []) := by
    intro   σ H locs ls hf hw hl
    unfold zf_Explorer_isSort_76 at hf
    refine lv_iconst (v := 0) hx hb d_Explorer_isSort_76 (by decide) ?_
    exact K77 0 σ H locs ls hf hw (lv_sub hl [] rfl)
  have K42 : ∀ (t0 : Int32) (σ : zs_S) (H : Heap) (locs : List Loc) (ls : Array Slot), zf_Explorer_isSort_42 F t0 σ = some q → zs_I 0 D cA ad A s σ H locs → lv_has ls 4 [] → W p l e RR s m args below meth c H locs 0 0 QQ (F0 m 42 ls [.int t0]) := by
    intro  t0 σ H locs ls hf hw hl
    unfold zf_Explorer_isSort_42 at hf
    obtain ⟨hz, hf⟩ := zq_gs hf
    exact zr_zret G hw hr hlocks hz hf hQ d_Explorer_isSort_42
  have K41 : ∀ (σ : zs_S) (H : Heap) (locs : List Loc) (ls : Array Slot), zf_Explorer_isSort_41 F σ = some q → zs_I 0 D cA ad A s σ H locs → lv_has ls 4 [] → W p l e RR s m args below meth c H locs 0 0 QQ (F0 m 41 ls []) := by
    intro   σ H locs ls hf hw hl
    unfold zf_Explorer_isSort_41 at hf
    refine lv_iconst (v := 0) hx hb d_Explorer_isSort_41 (by decide) ?_
    exact K42 0 σ H locs ls hf hw (lv_sub hl [] rfl)
  have K28 : ∀ (x2 : Int32) (x3 : Int32) (σ : zs_S) (H : Heap) (locs : List Loc) (ls : Array Slot), zf_Explorer_isSort_28 F x2 x3 σ = some q → zs_I 0 D cA ad A s σ H locs → lv_has ls 4 [(2, .int x2), (3, .int x3)] → W p l e RR s m args below meth c H locs 0 0 QQ (F0 m 28 ls []) := by
    intro  x2 x3 σ H locs ls hf hw hl
    unfold zf_Explorer_isSort_28 at hf
    refine lv_iload_n hx hb d_Explorer_isSort_28 rfl (lv_at hl 0 rfl) ?_
    refine lv_iconst (v := 2) hx hb d_Explorer_isSort_29 (by decide) ?_
    refine lv_icmp_ne hx hb d_Explorer_isSort_30 (tgt := 41) rfl (fun hc => ?_) (fun hc => ?_)
    · have hf := (if_neg hc).symm.trans hf
      exact K41 σ H locs ls hf hw (lv_sub hl [] rfl)
    · have hf := (if_pos hc).symm.trans hf
      refine lv_iload_n hx hb d_Explorer_isSort_33 rfl (lv_at hl 1 rfl) ?_
      refine lv_if_eq hx hb d_Explorer_isSort_34 (tgt := 41) rfl (fun hc => ?_) (fun hc => ?_)
      · have hf := (if_pos hc).symm.trans hf
        exact K41 σ H locs ls hf hw (lv_sub hl [] rfl)
      · have hf := (if_neg hc).symm.trans hf
        refine lv_iconst (v := 1) hx hb d_Explorer_isSort_37 (by decide) ?_
        refine lv_goto hx hb d_Explorer_isSort_38 (tgt := 42) rfl ?_
        exact K42 1 σ H locs ls hf hw (lv_sub hl [] rfl)
  have K18 : ∀ (x1 : Int32) (x2 : Int32) (t0 : Int32) (σ : zs_S) (H : Heap) (locs : List Loc) (ls : Array Slot), zf_Explorer_isSort_18 F x1 x2 t0 σ = some q → zs_I 0 D cA ad A s σ H locs → lv_has ls 4 [(0, .ref (ad 138)), (1, .int x1), (2, .int x2)] → W p l e RR s m args below meth c H locs 0 0 QQ (F0 m 18 ls [.int t0]) := by
    intro  x1 x2 t0 σ H locs ls hf hw hl
    unfold zf_Explorer_isSort_18 at hf
    refine lv_istore_n hx hb d_Explorer_isSort_18 rfl hl (by decide) rfl (fun ls hl => ?_)
    have hl : lv_has ls 4 [(3, .int t0), (0, .ref (ad 138)), (1, .int x1), (2, .int x2)] := hl
    refine lv_iload_n hx hb d_Explorer_isSort_19 rfl (lv_at hl 3 rfl) ?_
    refine lv_iconst (v := 2) hx hb d_Explorer_isSort_20 (by decide) ?_
    refine lv_icmp_eq hx hb d_Explorer_isSort_21 (tgt := 28) rfl (fun hc => ?_) (fun hc => ?_)
    · have hf := (if_pos hc).symm.trans hf
      exact K28 x2 t0 σ H locs ls hf hw (lv_sub hl [3, 0] rfl)
    · have hf := (if_neg hc).symm.trans hf
      refine lv_iload_n hx hb d_Explorer_isSort_24 rfl (lv_at hl 0 rfl) ?_
      refine lv_if_eq hx hb d_Explorer_isSort_25 (tgt := 43) rfl (fun hc => ?_) (fun hc => ?_)
      · have hf := (if_pos hc).symm.trans hf
        refine lv_iload_n hx hb d_Explorer_isSort_43 rfl (lv_at hl 3 rfl) ?_
        refine lv_if_ne hx hb d_Explorer_isSort_44 (tgt := 53) rfl (fun hc => ?_) (fun hc => ?_)
        · have hf := (if_neg hc).symm.trans hf
          refine lv_aload_n hx hb d_Explorer_isSort_53 rfl (lv_at hl 1 rfl) ?_
          refine zr_get (ci := 4) G hw 138 0 zi_4 rfl rfl rfl (by decide) zm_143 (fun _ h => h) (v := .ref (ad 10)) rfl d_Explorer_isSort_54 ?_
          refine lv_iload_n hx hb d_Explorer_isSort_57 rfl (lv_at hl 2 rfl) ?_
          obtain ⟨r5, σ4, hc6, hf⟩ := zq_cs hf
          refine zr_ci hw (zr_runV (rest := []) (ci := 3) (o := 10) G hw [.int x1] (zc_States_stepsOf hJ hc6) (cwV 1 hts (zs_gV zm_218 zm_219 zm_220 zm_39 zm_217) rfl rfl rfl (by decide +kernel) ⟨Nat.le_trans (by decide) hR1, Nat.le_trans (by decide) hR2⟩) rfl rfl rfl hl.1 (Nat.le_of_ble_eq_true rfl) d_Explorer_isSort_58 ⟨Nat.zero_le _, Nat.zero_le _⟩) (fun H locs hw => ?_)
          refine lv_if_ne hx hb d_Explorer_isSort_61 (tgt := 76) rfl (fun hc => ?_) (fun hc => ?_)
          · have hf := (if_neg hc).symm.trans hf
            exact K76 σ4 H locs ls hf hw (lv_sub hl [] rfl)
          · have hf := (if_pos hc).symm.trans hf
            refine lv_aload_n hx hb d_Explorer_isSort_64 rfl (lv_at hl 1 rfl) ?_
            refine lv_iload_n hx hb d_Explorer_isSort_65 rfl (lv_at hl 2 rfl) ?_
            obtain ⟨r8, σ7, hc9, hf⟩ := zq_cs hf
            refine zr_ci hw (zr_runV (rest := []) (ci := 4) (o := 138) G hw [.int x1] (zc_Explorer_haveAllEnded hJ hc9) (cwV 1 hts (zs_gV zm_222 zm_223 zm_224 zm_152 zm_221) rfl rfl rfl (by decide +kernel) ⟨Nat.le_trans (by decide) hR1, Nat.le_trans (by decide) hR2⟩) rfl rfl rfl hl.1 (Nat.le_of_ble_eq_true rfl) d_Explorer_isSort_66 ⟨Nat.zero_le _, Nat.zero_le _⟩) (fun H locs hw => ?_)
            refine lv_if_ne hx hb d_Explorer_isSort_69 (tgt := 76) rfl (fun hc => ?_) (fun hc => ?_)
            · have hf := (if_neg hc).symm.trans hf
              exact K76 σ7 H locs ls hf hw (lv_sub hl [] rfl)
            · have hf := (if_pos hc).symm.trans hf
              refine lv_iconst (v := 1) hx hb d_Explorer_isSort_72 (by decide) ?_
              refine lv_goto hx hb d_Explorer_isSort_73 (tgt := 77) rfl ?_
              exact K77 1 σ7 H locs ls hf hw (lv_sub hl [] rfl)
        · have hf := (if_pos hc).symm.trans hf
          refine lv_aload_n hx hb d_Explorer_isSort_47 rfl (lv_at hl 1 rfl) ?_
          refine lv_iload_n hx hb d_Explorer_isSort_48 rfl (lv_at hl 2 rfl) ?_
          obtain ⟨r11, σ10, hc12, hf⟩ := zq_cs hf
          refine zr_ci hw (zr_runV (rest := []) (ci := 4) (o := 138) G hw [.int x1] (zc_Explorer_haveAllEnded hJ hc12) (cwV 1 hts (zs_gV zm_222 zm_223 zm_224 zm_152 zm_221) rfl rfl rfl (by decide +kernel) ⟨Nat.le_trans (by decide) hR1, Nat.le_trans (by decide) hR2⟩) rfl rfl rfl hl.1 (Nat.le_of_ble_eq_true rfl) d_Explorer_isSort_49 ⟨Nat.zero_le _, Nat.zero_le _⟩) (fun H locs hw => ?_)
          obtain ⟨hz, hf⟩ := zq_gs hf
          exact zr_zret G hw hr hlocks hz hf hQ d_Explorer_isSort_52
      · have hf := (if_neg hc).symm.trans hf
        exact K28 x2 t0 σ H locs ls hf hw (lv_sub hl [3, 0] rfl)
  unfold zf_Explorer_isSort at hf
  refine lv_aload_n hx hb d_Explorer_isSort_0 rfl (lv_at hl 0 rfl) ?_
  refine zr_get (ci := 4) G hw 138 0 zi_4 rfl rfl rfl (by decide) zm_143 (fun _ h => h) (v := .ref (ad 10)) rfl d_Explorer_isSort_1 ?_
  refine lv_iload_n hx hb d_Explorer_isSort_4 rfl (lv_at hl 1 rfl) ?_
  refine lv_bipush (v := 32) hx hb d_Explorer_isSort_5 (by decide) ?_
  obtain ⟨r2, σ1, hc3, hf⟩ := zq_cs hf
  refine zr_ci hw (zr_runV (rest := []) (ci := 3) (o := 10) G hw [.int x1, .int 32] (zc_States_cell hJ hc3) (cwV 2 hts (zs_gV zm_145 zm_146 zm_147 zm_39 zm_144) rfl rfl rfl (by decide +kernel) ⟨Nat.le_trans (by decide) hR1, Nat.le_trans (by decide) hR2⟩) rfl rfl rfl hl.1 (Nat.le_of_ble_eq_true rfl) d_Explorer_isSort_7 ⟨Nat.zero_le _, Nat.zero_le _⟩) (fun H locs hw => ?_)
  refine lv_if_eq hx hb d_Explorer_isSort_10 (tgt := 17) rfl (fun hc => ?_) (fun hc => ?_)
  · have hf := (if_pos hc).symm.trans hf
    refine lv_iconst (v := 0) hx hb d_Explorer_isSort_17 (by decide) ?_
    exact K18 x1 x2 0 σ1 H locs ls hf hw (lv_sub hl [0, 1, 2] rfl)
  · have hf := (if_neg hc).symm.trans hf
    refine lv_iconst (v := 1) hx hb d_Explorer_isSort_13 (by decide) ?_
    refine lv_goto hx hb d_Explorer_isSort_14 (tgt := 18) rfl ?_
    exact K18 x1 x2 1 σ1 H locs ls hf hw (lv_sub hl [0, 1, 2] rfl)
/-! ScheduleCheck$Explorer.isRace -/
def y_Explorer_isRace : MethodName := ⟨"ScheduleCheck$Explorer","isRace","(II)Z"⟩
theorem d_Explorer_isRace_0 : decode prog_4_method_16_code 0 = .ok (.aload_n 0, 1) := by decide +kernel
theorem d_Explorer_isRace_1 : decode prog_4_method_16_code 1 = .ok (.getfield 9, 3) := by decide +kernel
theorem d_Explorer_isRace_4 : decode prog_4_method_16_code 4 = .ok (.iload_n 1, 1) := by decide +kernel
theorem d_Explorer_isRace_5 : decode prog_4_method_16_code 5 = .ok (.bipush 32, 2) := by decide +kernel
theorem d_Explorer_isRace_7 : decode prog_4_method_16_code 7 = .ok (.invokevirtual 39, 3) := by decide +kernel
theorem d_Explorer_isRace_10 : decode prog_4_method_16_code 10 = .ok (.ifCond .eq 5, 3) := by decide +kernel
theorem d_Explorer_isRace_13 : decode prog_4_method_16_code 13 = .ok (.iconst 0, 1) := by decide +kernel
theorem d_Explorer_isRace_14 : decode prog_4_method_16_code 14 = .ok (.ireturn, 1) := by decide +kernel
theorem d_Explorer_isRace_15 : decode prog_4_method_16_code 15 = .ok (.iconst 0, 1) := by decide +kernel
theorem d_Explorer_isRace_16 : decode prog_4_method_16_code 16 = .ok (.istore_n 3, 1) := by decide +kernel
theorem d_Explorer_isRace_17 : decode prog_4_method_16_code 17 = .ok (.iconst 0, 1) := by decide +kernel
theorem d_Explorer_isRace_18 : decode prog_4_method_16_code 18 = .ok (.istore 4, 2) := by decide +kernel
theorem d_Explorer_isRace_20 : decode prog_4_method_16_code 20 = .ok (.iconst 0, 1) := by decide +kernel
theorem d_Explorer_isRace_21 : decode prog_4_method_16_code 21 = .ok (.istore 5, 2) := by decide +kernel
theorem d_Explorer_isRace_23 : decode prog_4_method_16_code 23 = .ok (.iload 5, 2) := by decide +kernel
theorem d_Explorer_isRace_25 : decode prog_4_method_16_code 25 = .ok (.aload_n 0, 1) := by decide +kernel
theorem d_Explorer_isRace_26 : decode prog_4_method_16_code 26 = .ok (.getfield 15, 3) := by decide +kernel
theorem d_Explorer_isRace_29 : decode prog_4_method_16_code 29 = .ok (.getfield 43, 3) := by decide +kernel
theorem d_Explorer_isRace_32 : decode prog_4_method_16_code 32 = .ok (.if_icmp .ge 93, 3) := by decide +kernel
theorem d_Explorer_isRace_35 : decode prog_4_method_16_code 35 = .ok (.aload_n 0, 1) := by decide +kernel
theorem d_Explorer_isRace_36 : decode prog_4_method_16_code 36 = .ok (.getfield 9, 3) := by decide +kernel
theorem d_Explorer_isRace_39 : decode prog_4_method_16_code 39 = .ok (.iload_n 1, 1) := by decide +kernel
theorem d_Explorer_isRace_40 : decode prog_4_method_16_code 40 = .ok (.bipush 16, 2) := by decide +kernel
theorem d_Explorer_isRace_42 : decode prog_4_method_16_code 42 = .ok (.iload 5, 2) := by decide +kernel
theorem d_Explorer_isRace_44 : decode prog_4_method_16_code 44 = .ok (.iadd, 1) := by decide +kernel
theorem d_Explorer_isRace_45 : decode prog_4_method_16_code 45 = .ok (.invokevirtual 39, 3) := by decide +kernel
theorem d_Explorer_isRace_48 : decode prog_4_method_16_code 48 = .ok (.iconst 2, 1) := by decide +kernel
theorem d_Explorer_isRace_49 : decode prog_4_method_16_code 49 = .ok (.if_icmp .ne 7, 3) := by decide +kernel
theorem d_Explorer_isRace_52 : decode prog_4_method_16_code 52 = .ok (.iconst 1, 1) := by decide +kernel
theorem d_Explorer_isRace_53 : decode prog_4_method_16_code 53 = .ok (.goto 4, 3) := by decide +kernel
theorem d_Explorer_isRace_56 : decode prog_4_method_16_code 56 = .ok (.iconst 0, 1) := by decide +kernel
theorem d_Explorer_isRace_57 : decode prog_4_method_16_code 57 = .ok (.istore 6, 2) := by decide +kernel
theorem d_Explorer_isRace_59 : decode prog_4_method_16_code 59 = .ok (.aload_n 0, 1) := by decide +kernel
theorem d_Explorer_isRace_60 : decode prog_4_method_16_code 60 = .ok (.iload_n 1, 1) := by decide +kernel
theorem d_Explorer_isRace_61 : decode prog_4_method_16_code 61 = .ok (.iload 5, 2) := by decide +kernel
theorem d_Explorer_isRace_63 : decode prog_4_method_16_code 63 = .ok (.invokevirtual 48, 3) := by decide +kernel
theorem d_Explorer_isRace_66 : decode prog_4_method_16_code 66 = .ok (.ifCond .eq 53, 3) := by decide +kernel
theorem d_Explorer_isRace_69 : decode prog_4_method_16_code 69 = .ok (.iload 6, 2) := by decide +kernel
theorem d_Explorer_isRace_71 : decode prog_4_method_16_code 71 = .ok (.ifCond .ne 48, 3) := by decide +kernel
theorem d_Explorer_isRace_74 : decode prog_4_method_16_code 74 = .ok (.aload_n 0, 1) := by decide +kernel
theorem d_Explorer_isRace_75 : decode prog_4_method_16_code 75 = .ok (.iload_n 1, 1) := by decide +kernel
theorem d_Explorer_isRace_76 : decode prog_4_method_16_code 76 = .ok (.iload 5, 2) := by decide +kernel
theorem d_Explorer_isRace_78 : decode prog_4_method_16_code 78 = .ok (.invokevirtual 72, 3) := by decide +kernel
theorem d_Explorer_isRace_81 : decode prog_4_method_16_code 81 = .ok (.astore 7, 2) := by decide +kernel
theorem d_Explorer_isRace_83 : decode prog_4_method_16_code 83 = .ok (.iload_n 3, 1) := by decide +kernel
theorem d_Explorer_isRace_84 : decode prog_4_method_16_code 84 = .ok (.aload 7, 2) := by decide +kernel
theorem d_Explorer_isRace_86 : decode prog_4_method_16_code 86 = .ok (.iload_n 2, 1) := by decide +kernel
theorem d_Explorer_isRace_87 : decode prog_4_method_16_code 87 = .ok (.invokevirtual 172, 3) := by decide +kernel
theorem d_Explorer_isRace_90 : decode prog_4_method_16_code 90 = .ok (.ifCond .eq 7, 3) := by decide +kernel
theorem d_Explorer_isRace_93 : decode prog_4_method_16_code 93 = .ok (.iconst 1, 1) := by decide +kernel
theorem d_Explorer_isRace_94 : decode prog_4_method_16_code 94 = .ok (.goto 4, 3) := by decide +kernel
theorem d_Explorer_isRace_97 : decode prog_4_method_16_code 97 = .ok (.iconst 0, 1) := by decide +kernel
theorem d_Explorer_isRace_98 : decode prog_4_method_16_code 98 = .ok (.iadd, 1) := by decide +kernel
theorem d_Explorer_isRace_99 : decode prog_4_method_16_code 99 = .ok (.istore_n 3, 1) := by decide +kernel
theorem d_Explorer_isRace_100 : decode prog_4_method_16_code 100 = .ok (.iload 4, 2) := by decide +kernel
theorem d_Explorer_isRace_102 : decode prog_4_method_16_code 102 = .ok (.aload 7, 2) := by decide +kernel
theorem d_Explorer_isRace_104 : decode prog_4_method_16_code 104 = .ok (.iload_n 2, 1) := by decide +kernel
theorem d_Explorer_isRace_105 : decode prog_4_method_16_code 105 = .ok (.invokevirtual 175, 3) := by decide +kernel
theorem d_Explorer_isRace_108 : decode prog_4_method_16_code 108 = .ok (.ifCond .eq 7, 3) := by decide +kernel
theorem d_Explorer_isRace_111 : decode prog_4_method_16_code 111 = .ok (.iconst 1, 1) := by decide +kernel
theorem d_Explorer_isRace_112 : decode prog_4_method_16_code 112 = .ok (.goto 4, 3) := by decide +kernel
theorem d_Explorer_isRace_115 : decode prog_4_method_16_code 115 = .ok (.iconst 0, 1) := by decide +kernel
theorem d_Explorer_isRace_116 : decode prog_4_method_16_code 116 = .ok (.iadd, 1) := by decide +kernel
theorem d_Explorer_isRace_117 : decode prog_4_method_16_code 117 = .ok (.istore 4, 2) := by decide +kernel
theorem d_Explorer_isRace_119 : decode prog_4_method_16_code 119 = .ok (.iinc 5 1, 3) := by decide +kernel
theorem d_Explorer_isRace_122 : decode prog_4_method_16_code 122 = .ok (.goto (-99), 3) := by decide +kernel
theorem d_Explorer_isRace_125 : decode prog_4_method_16_code 125 = .ok (.iload_n 3, 1) := by decide +kernel
theorem d_Explorer_isRace_126 : decode prog_4_method_16_code 126 = .ok (.iconst 1, 1) := by decide +kernel
theorem d_Explorer_isRace_127 : decode prog_4_method_16_code 127 = .ok (.if_icmp .le 12, 3) := by decide +kernel
theorem d_Explorer_isRace_130 : decode prog_4_method_16_code 130 = .ok (.iload 4, 2) := by decide +kernel
theorem d_Explorer_isRace_132 : decode prog_4_method_16_code 132 = .ok (.ifCond .le 7, 3) := by decide +kernel
theorem d_Explorer_isRace_135 : decode prog_4_method_16_code 135 = .ok (.iconst 1, 1) := by decide +kernel
theorem d_Explorer_isRace_136 : decode prog_4_method_16_code 136 = .ok (.goto 4, 3) := by decide +kernel
theorem d_Explorer_isRace_139 : decode prog_4_method_16_code 139 = .ok (.iconst 0, 1) := by decide +kernel
theorem d_Explorer_isRace_140 : decode prog_4_method_16_code 140 = .ok (.ireturn, 1) := by decide +kernel
def zf_Explorer_isRace_140 (F : Nat)  (t0 : Int32) (σ : zs_S) : Option (Int32 × zs_S) :=
  zq_g (zq_z t0) <|
  some (t0, σ)
def zf_Explorer_isRace_139 (F : Nat)   (σ : zs_S) : Option (Int32 × zs_S) :=
  zf_Explorer_isRace_140 F 0 σ
def zf_Explorer_isRace_119 (F : Nat) (k23 : Int32 → Int32 → Int32 → Int32 → Int32 → zs_S → Option (Int32 × zs_S)) (x1 : Int32) (x2 : Int32) (x3 : Int32) (x4 : Int32) (x5 : Int32) (σ : zs_S) : Option (Int32 × zs_S) :=
  zq_v (x5 + 1) fun v24 =>
  k23 x1 x2 x3 x4 v24 σ
def zf_Explorer_isRace_116 (F : Nat) (k23 : Int32 → Int32 → Int32 → Int32 → Int32 → zs_S → Option (Int32 × zs_S)) (x1 : Int32) (x2 : Int32) (x3 : Int32) (x5 : Int32) (t0 : Int32) (t1 : Int32) (σ : zs_S) : Option (Int32 × zs_S) :=
  zq_v (t1 + t0) fun v25 =>
  zf_Explorer_isRace_119 F k23 x1 x2 x3 v25 x5 σ
def zf_Explorer_isRace_98 (F : Nat) (k23 : Int32 → Int32 → Int32 → Int32 → Int32 → zs_S → Option (Int32 × zs_S)) (x1 : Int32) (x2 : Int32) (x4 : Int32) (x5 : Int32) (x7 : Nat) (t0 : Int32) (t1 : Int32) (σ : zs_S) : Option (Int32 × zs_S) :=
  zq_v (t1 + t0) fun v19 =>
  zq_g (zq_k 0 x7 16) <|
  zq_c (zf_Statement_assigns F x7 x2 σ) fun r21 σ20 =>
  if r21 = 0 then (
    zf_Explorer_isRace_116 F k23 x1 x2 v19 x5 0 x4 σ20
  ) else (
    zf_Explorer_isRace_116 F k23 x1 x2 v19 x5 1 x4 σ20
  )
def zf_Explorer_isRace_57 (F : Nat) (k23 : Int32 → Int32 → Int32 → Int32 → Int32 → zs_S → Option (Int32 × zs_S)) (x1 : Int32) (x2 : Int32) (x3 : Int32) (x4 : Int32) (x5 : Int32) (t0 : Int32) (σ : zs_S) : Option (Int32 × zs_S) :=
  zq_c (zf_Explorer_isReady F x1 x5 σ) fun r10 σ9 =>
  if r10 = 0 then (
    zf_Explorer_isRace_119 F k23 x1 x2 x3 x4 x5 σ9
  ) else (
    if t0 = 0 then (
      zq_c (zf_Explorer_nextOf F x1 x5 σ9) fun r13 σ12 =>
      zq_g (zq_k 0 r13 16) <|
      zq_c (zf_Statement_uses F r13 x2 σ12) fun r16 σ15 =>
      if r16 = 0 then (
        zf_Explorer_isRace_98 F k23 x1 x2 x4 x5 r13 0 x3 σ15
      ) else (
        zf_Explorer_isRace_98 F k23 x1 x2 x4 x5 r13 1 x3 σ15
      )
    ) else (
      zf_Explorer_isRace_119 F k23 x1 x2 x3 x4 x5 σ9
    )
  )
def zf_Explorer_isRace_23 (F : Nat)  : Nat → Int32 → Int32 → Int32 → Int32 → Int32 → zs_S → Option (Int32 × zs_S)
  | 0, _, _, _, _, _, _ => none
  | n + 1, x1, x2, x3, x4, x5, σ =>
    zq_q (zs_r σ 138 1) fun q4 =>
    zq_g (zq_k 0 q4 15) <|
    if (zs_i σ q4 2) ≤ x5 then (
      if x3 ≤ 1 then (
        zf_Explorer_isRace_139 F σ
      ) else (
        if x4 ≤ 0 then (
          zf_Explorer_isRace_139 F σ
        ) else (
          zf_Explorer_isRace_140 F 1 σ
        )
      )
    ) else (
      zq_c (zf_States_cell F x1 (16 + x5) σ) fun r7 σ6 =>
      if r7 = 2 then (
        zf_Explorer_isRace_57 F (zf_Explorer_isRace_23 F n) x1 x2 x3 x4 x5 1 σ6
      ) else (
        zf_Explorer_isRace_57 F (zf_Explorer_isRace_23 F n) x1 x2 x3 x4 x5 0 σ6
      )
    )
def zf_Explorer_isRace (F : Nat) (x1 : Int32) (x2 : Int32) (σ : zs_S) : Option (Int32 × zs_S) :=
  zq_c (zf_States_cell F x1 32 σ) fun r2 σ1 =>
  if r2 = 0 then (
    zf_Explorer_isRace_23 F F x1 x2 0 0 0 σ1
  ) else (
    some (0, σ1)
  )
set_option maxHeartbeats 4000000 in
set_option maxRecDepth 100000 in
theorem zc_Explorer_isRace {l : Launch} {D : va_G} {cA : Nat → ClassId} {ad : Nat → Nat} {A : Nat → Prop} {F : Nat} {x1 : Int32} {x2 : Int32} {σ : zs_S} {q : Int32 × zs_S} (hJ : zs_J ad) (hf : zf_Explorer_isRace F x1 x2 σ = some q) : Met l y_Explorer_isRace (.code y_Explorer_isRace prog_4_method_16_code 8 (some .boolean) :: zd_ww) { frames := 3, cells := 0, slots := 0, locals := 68 } (va_Pc [.ref (ad 138), .int x1, .int x2] (zs_U 0 D cA ad A σ)) (zs_Qi 0 D cA ad A q) 0 0 A := by
  refine Met.ofW (cc := prog_4_method_16_code) (maxL := 8) (ret := (some .boolean)) (by decide) rfl ?_
  intro p e s m args below meth c s₁ B hml hv
  obtain ⟨hargs, hP, hK, hD, hZ⟩ := hv
  have G : zs_G 0 p s m args c prog_4_method_16_code 8 "ScheduleCheck$Explorer" D cA ad A := ⟨⟨B.exec, B.bytes, hml, findClass_of_methodNamed B.named, fun w h => atoms_spec B.pre w (List.mem_cons_of_mem _ h)⟩, hK, hJ, hZ⟩
  have hw : zs_I 0 D cA ad A s σ s.heap [] := ⟨hP, hD, va_S.rf⟩
  have hx := G.1.1
  have hb := G.1.2.1
  have hown := G.1.2.2.2.1
  have hts := G.1.2.2.2.2
  have hr := B.returns
  have hlocks := B.notSynchronized
  have he : entryFrame m args 8 = F0 m 0 ((lg_sl [.ref (ad 138), .int x1, .int x2] ++ List.replicate (8 - (lg_sl [.ref (ad 138), .int x1, .int x2]).length) Slot.unset).toArray) [] := by rw [hargs]; exact lg_entry_eq m _ 8
  have hl := lv_entry [.ref (ad 138), .int x1, .int x2] (n := 8) (Nat.le_of_ble_eq_true rfl)
  rw [he]
  generalize (lg_sl [.ref (ad 138), .int x1, .int x2] ++ List.replicate (8 - (lg_sl [.ref (ad 138), .int x1, .int x2]).length) Slot.unset).toArray = ls at hl
  have hl : lv_has ls 8 [(0, .ref (ad 138)), (1, .int x1), (2, .int x2)] := hl
  obtain ⟨RR, hR⟩ : ∃ z, z = (headSpec (.code y_Explorer_isRace prog_4_method_16_code 8 (some .boolean) :: zd_ww) { frames := 3, cells := 0, slots := 0, locals := 68 }).room := ⟨_, rfl⟩
  rw [← hR]
  obtain ⟨QQ, hQ⟩ : ∃ z, z = MQ below (zs_Qi 0 D cA ad A q) args s 0 0 A := ⟨_, rfl⟩
  rw [← hQ]
  have hR1 : 3 ≤ RR.frames := by rw [hR]; exact Nat.le_refl _
  have hR2 : 68 ≤ RR.locals := by rw [hR]; exact Nat.le_refl _
  generalize s.heap = H at hw ⊢
  generalize ([] : List Loc) = locs at hw ⊢
  have K140 : ∀ (t0 : Int32) (σ : zs_S) (H : Heap) (locs : List Loc) (ls : Array Slot), zf_Explorer_isRace_140 F t0 σ = some q → zs_I 0 D cA ad A s σ H locs → lv_has ls 8 [] → W p l e RR s m args below meth c H locs 0 0 QQ (F0 m 140 ls [.int t0]) := by
    intro  t0 σ H locs ls hf hw hl
    unfold zf_Explorer_isRace_140 at hf
    obtain ⟨hz, hf⟩ := zq_gs hf
    exact zr_zret G hw hr hlocks hz hf hQ d_Explorer_isRace_140
  have K139 : ∀ (σ : zs_S) (H : Heap) (locs : List Loc) (ls : Array Slot), zf_Explorer_isRace_139 F σ = some q → zs_I 0 D cA ad A s σ H locs → lv_has ls 8 [] → W p l e RR s m args below meth c H locs 0 0 QQ (F0 m 139 ls []) := by
    intro   σ H locs ls hf hw hl
    unfold zf_Explorer_isRace_139 at hf
    refine lv_iconst (v := 0) hx hb d_Explorer_isRace_139 (by decide) ?_
    exact K140 0 σ H locs ls hf hw (lv_sub hl [] rfl)
  have K119 : ∀ (k23 : Int32 → Int32 → Int32 → Int32 → Int32 → zs_S → Option (Int32 × zs_S)) (hk23 : ∀ (x1 : Int32) (x2 : Int32) (x3 : Int32) (x4 : Int32) (x5 : Int32) (σ : zs_S) (H : Heap) (locs : List Loc) (ls : Array Slot), k23 x1 x2 x3 x4 x5 σ = some q → zs_I 0 D cA ad A s σ H locs → lv_has ls 8 [(0, .ref (ad 138)), (1, .int x1), (2, .int x2), (3, .int x3), (4, .int x4), (5, .int x5)] → W p l e RR s m args below meth c H locs 0 0 QQ (F0 m 23 ls [])) (x1 : Int32) (x2 : Int32) (x3 : Int32) (x4 : Int32) (x5 : Int32) (σ : zs_S) (H : Heap) (locs : List Loc) (ls : Array Slot), zf_Explorer_isRace_119 F k23 x1 x2 x3 x4 x5 σ = some q → zs_I 0 D cA ad A s σ H locs → lv_has ls 8 [(0, .ref (ad 138)), (1, .int x1), (2, .int x2), (3, .int x3), (4, .int x4), (5, .int x5)] → W p l e RR s m args below meth c H locs 0 0 QQ (F0 m 119 ls []) := by
    intro k23 hk23 x1 x2 x3 x4 x5 σ H locs ls hf hw hl
    unfold zf_Explorer_isRace_119 at hf
    obtain ⟨v24, e_v24, hf⟩ := zq_ss hf
    refine lv_iinc (v := v24) hx hb d_Explorer_isRace_119 hl (k := 5) rfl (zq_inc (k := 1) (by decide) e_v24) (by decide) rfl (fun ls hl => ?_)
    have hl : lv_has ls 8 [(5, .int v24), (0, .ref (ad 138)), (1, .int x1), (2, .int x2), (3, .int x3), (4, .int x4)] := hl
    refine lv_goto hx hb d_Explorer_isRace_122 (tgt := 23) rfl ?_
    exact hk23 x1 x2 x3 x4 v24 σ H locs ls hf hw (lv_sub hl [1, 2, 3, 4, 5, 0] rfl)
  have K116 : ∀ (k23 : Int32 → Int32 → Int32 → Int32 → Int32 → zs_S → Option (Int32 × zs_S)) (hk23 : ∀ (x1 : Int32) (x2 : Int32) (x3 : Int32) (x4 : Int32) (x5 : Int32) (σ : zs_S) (H : Heap) (locs : List Loc) (ls : Array Slot), k23 x1 x2 x3 x4 x5 σ = some q → zs_I 0 D cA ad A s σ H locs → lv_has ls 8 [(0, .ref (ad 138)), (1, .int x1), (2, .int x2), (3, .int x3), (4, .int x4), (5, .int x5)] → W p l e RR s m args below meth c H locs 0 0 QQ (F0 m 23 ls [])) (x1 : Int32) (x2 : Int32) (x3 : Int32) (x5 : Int32) (t0 : Int32) (t1 : Int32) (σ : zs_S) (H : Heap) (locs : List Loc) (ls : Array Slot), zf_Explorer_isRace_116 F k23 x1 x2 x3 x5 t0 t1 σ = some q → zs_I 0 D cA ad A s σ H locs → lv_has ls 8 [(0, .ref (ad 138)), (1, .int x1), (2, .int x2), (3, .int x3), (5, .int x5)] → W p l e RR s m args below meth c H locs 0 0 QQ (F0 m 116 ls [.int t0, .int t1]) := by
    intro k23 hk23 x1 x2 x3 x5 t0 t1 σ H locs ls hf hw hl
    unfold zf_Explorer_isRace_116 at hf
    refine lv_iadd hx hb d_Explorer_isRace_116 ?_
    refine lv_topi (fun v25 e_v25 => ?_)
    have hf := zq_vs e_v25 hf
    refine lv_istore hx hb d_Explorer_isRace_117 hl (by decide) rfl (fun ls hl => ?_)
    have hl : lv_has ls 8 [(4, .int v25), (0, .ref (ad 138)), (1, .int x1), (2, .int x2), (3, .int x3), (5, .int x5)] := hl
    exact K119 k23 hk23 x1 x2 x3 v25 x5 σ H locs ls hf hw (lv_sub hl [1, 2, 3, 4, 0, 5] rfl)
  have K98 : ∀ (k23 : Int32 → Int32 → Int32 → Int32 → Int32 → zs_S → Option (Int32 × zs_S)) (hk23 : ∀ (x1 : Int32) (x2 : Int32) (x3 : Int32) (x4 : Int32) (x5 : Int32) (σ : zs_S) (H : Heap) (locs : List Loc) (ls : Array Slot), k23 x1 x2 x3 x4 x5 σ = some q → zs_I 0 D cA ad A s σ H locs → lv_has ls 8 [(0, .ref (ad 138)), (1, .int x1), (2, .int x2), (3, .int x3), (4, .int x4), (5, .int x5)] → W p l e RR s m args below meth c H locs 0 0 QQ (F0 m 23 ls [])) (x1 : Int32) (x2 : Int32) (x4 : Int32) (x5 : Int32) (x7 : Nat) (t0 : Int32) (t1 : Int32) (σ : zs_S) (H : Heap) (locs : List Loc) (ls : Array Slot), zf_Explorer_isRace_98 F k23 x1 x2 x4 x5 x7 t0 t1 σ = some q → zs_I 0 D cA ad A s σ H locs → lv_has ls 8 [(0, .ref (ad 138)), (1, .int x1), (2, .int x2), (4, .int x4), (5, .int x5), (7, .ref (ad x7))] → W p l e RR s m args below meth c H locs 0 0 QQ (F0 m 98 ls [.int t0, .int t1]) := by
    intro k23 hk23 x1 x2 x4 x5 x7 t0 t1 σ H locs ls hf hw hl
    unfold zf_Explorer_isRace_98 at hf
    refine lv_iadd hx hb d_Explorer_isRace_98 ?_
    refine lv_topi (fun v19 e_v19 => ?_)
    have hf := zq_vs e_v19 hf
    refine lv_istore_n hx hb d_Explorer_isRace_99 rfl hl (by decide) rfl (fun ls hl => ?_)
    have hl : lv_has ls 8 [(3, .int v19), (0, .ref (ad 138)), (1, .int x1), (2, .int x2), (4, .int x4), (5, .int x5), (7, .ref (ad x7))] := hl
    refine lv_iload hx hb d_Explorer_isRace_100 (lv_at hl 4 rfl) ?_
    refine lv_aload hx hb d_Explorer_isRace_102 (lv_at hl 6 rfl) ?_
    refine lv_iload_n hx hb d_Explorer_isRace_104 rfl (lv_at hl 3 rfl) ?_
    obtain ⟨hs23, hf⟩ := zq_gs hf
    have hs23 := zq_ks hs23
    obtain ⟨r21, σ20, hc22, hf⟩ := zq_cs hf
    refine zr_ci hw (zr_runV (rest := [.int x4]) (ci := 6) (o := x7) G hw [.int x2] (zc_Statement_assigns hJ hc22) (cwV 1 hts (zs_gV zm_234 zm_235 zm_236 zm_198 zm_233) rfl rfl rfl (by decide +kernel) ⟨Nat.le_trans (by decide) hR1, Nat.le_trans (by decide) hR2⟩) hs23 rfl rfl hl.1 (Nat.le_of_ble_eq_true rfl) d_Explorer_isRace_105 ⟨Nat.zero_le _, Nat.zero_le _⟩) (fun H locs hw => ?_)
    refine lv_if_eq hx hb d_Explorer_isRace_108 (tgt := 115) rfl (fun hc => ?_) (fun hc => ?_)
    · have hf := (if_pos hc).symm.trans hf
      refine lv_iconst (v := 0) hx hb d_Explorer_isRace_115 (by decide) ?_
      exact K116 k23 hk23 x1 x2 v19 x5 0 x4 σ20 H locs ls hf hw (lv_sub hl [1, 2, 3, 0, 5] rfl)
    · have hf := (if_neg hc).symm.trans hf
      refine lv_iconst (v := 1) hx hb d_Explorer_isRace_111 (by decide) ?_
      refine lv_goto hx hb d_Explorer_isRace_112 (tgt := 116) rfl ?_
      exact K116 k23 hk23 x1 x2 v19 x5 1 x4 σ20 H locs ls hf hw (lv_sub hl [1, 2, 3, 0, 5] rfl)
  have K57 : ∀ (k23 : Int32 → Int32 → Int32 → Int32 → Int32 → zs_S → Option (Int32 × zs_S)) (hk23 : ∀ (x1 : Int32) (x2 : Int32) (x3 : Int32) (x4 : Int32) (x5 : Int32) (σ : zs_S) (H : Heap) (locs : List Loc) (ls : Array Slot), k23 x1 x2 x3 x4 x5 σ = some q → zs_I 0 D cA ad A s σ H locs → lv_has ls 8 [(0, .ref (ad 138)), (1, .int x1), (2, .int x2), (3, .int x3), (4, .int x4), (5, .int x5)] → W p l e RR s m args below meth c H locs 0 0 QQ (F0 m 23 ls [])) (x1 : Int32) (x2 : Int32) (x3 : Int32) (x4 : Int32) (x5 : Int32) (t0 : Int32) (σ : zs_S) (H : Heap) (locs : List Loc) (ls : Array Slot), zf_Explorer_isRace_57 F k23 x1 x2 x3 x4 x5 t0 σ = some q → zs_I 0 D cA ad A s σ H locs → lv_has ls 8 [(0, .ref (ad 138)), (1, .int x1), (2, .int x2), (3, .int x3), (4, .int x4), (5, .int x5)] → W p l e RR s m args below meth c H locs 0 0 QQ (F0 m 57 ls [.int t0]) := by
    intro k23 hk23 x1 x2 x3 x4 x5 t0 σ H locs ls hf hw hl
    unfold zf_Explorer_isRace_57 at hf
    refine lv_istore hx hb d_Explorer_isRace_57 hl (by decide) rfl (fun ls hl => ?_)
    have hl : lv_has ls 8 [(6, .int t0), (0, .ref (ad 138)), (1, .int x1), (2, .int x2), (3, .int x3), (4, .int x4), (5, .int x5)] := hl
    refine lv_aload_n hx hb d_Explorer_isRace_59 rfl (lv_at hl 1 rfl) ?_
    refine lv_iload_n hx hb d_Explorer_isRace_60 rfl (lv_at hl 2 rfl) ?_
    refine lv_iload hx hb d_Explorer_isRace_61 (lv_at hl 6 rfl) ?_
    obtain ⟨r10, σ9, hc11, hf⟩ := zq_cs hf
    refine zr_ci hw (zr_runV (rest := []) (ci := 4) (o := 138) G hw [.int x1, .int x5] (zc_Explorer_isReady hJ hc11) (cwV 2 hts (zs_gV zm_226 zm_227 zm_228 zm_152 zm_225) rfl rfl rfl (by decide +kernel) ⟨Nat.le_trans (by decide) hR1, Nat.le_trans (by decide) hR2⟩) rfl rfl rfl hl.1 (Nat.le_of_ble_eq_true rfl) d_Explorer_isRace_63 ⟨Nat.zero_le _, Nat.zero_le _⟩) (fun H locs hw => ?_)
    refine lv_if_eq hx hb d_Explorer_isRace_66 (tgt := 119) rfl (fun hc => ?_) (fun hc => ?_)
    · have hf := (if_pos hc).symm.trans hf
      exact K119 k23 hk23 x1 x2 x3 x4 x5 σ9 H locs ls hf hw (lv_sub hl [1, 2, 3, 4, 5, 6] rfl)
    · have hf := (if_neg hc).symm.trans hf
      refine lv_iload hx hb d_Explorer_isRace_69 (lv_at hl 0 rfl) ?_
      refine lv_if_ne hx hb d_Explorer_isRace_71 (tgt := 119) rfl (fun hc => ?_) (fun hc => ?_)
      · have hf := (if_neg hc).symm.trans hf
        exact K119 k23 hk23 x1 x2 x3 x4 x5 σ9 H locs ls hf hw (lv_sub hl [1, 2, 3, 4, 5, 6] rfl)
      · have hf := (if_pos hc).symm.trans hf
        refine lv_aload_n hx hb d_Explorer_isRace_74 rfl (lv_at hl 1 rfl) ?_
        refine lv_iload_n hx hb d_Explorer_isRace_75 rfl (lv_at hl 2 rfl) ?_
        refine lv_iload hx hb d_Explorer_isRace_76 (lv_at hl 6 rfl) ?_
        obtain ⟨r13, σ12, hc14, hf⟩ := zq_cs hf
        refine zr_cr hw (zr_runV (rest := []) (ci := 4) (o := 138) G hw [.int x1, .int x5] (zc_Explorer_nextOf hJ hc14) (cwV 2 hts (zs_gV zm_149 zm_150 zm_151 zm_152 zm_148) rfl rfl rfl (by decide +kernel) ⟨Nat.le_trans (by decide) hR1, Nat.le_trans (by decide) hR2⟩) rfl rfl rfl hl.1 (Nat.le_of_ble_eq_true rfl) d_Explorer_isRace_78 ⟨Nat.zero_le _, Nat.zero_le _⟩) (fun H locs hw => ?_)
        refine lv_astore hx hb d_Explorer_isRace_81 hl (by decide) rfl (fun ls hl => ?_)
        have hl : lv_has ls 8 [(7, .ref (ad r13)), (6, .int t0), (0, .ref (ad 138)), (1, .int x1), (2, .int x2), (3, .int x3), (4, .int x4), (5, .int x5)] := hl
        refine lv_iload_n hx hb d_Explorer_isRace_83 rfl (lv_at hl 5 rfl) ?_
        refine lv_aload hx hb d_Explorer_isRace_84 (lv_at hl 0 rfl) ?_
        refine lv_iload_n hx hb d_Explorer_isRace_86 rfl (lv_at hl 4 rfl) ?_
        obtain ⟨hs18, hf⟩ := zq_gs hf
        have hs18 := zq_ks hs18
        obtain ⟨r16, σ15, hc17, hf⟩ := zq_cs hf
        refine zr_ci hw (zr_runV (rest := [.int x3]) (ci := 6) (o := r13) G hw [.int x2] (zc_Statement_uses hJ hc17) (cwV 1 hts (zs_gV zm_230 zm_231 zm_232 zm_198 zm_229) rfl rfl rfl (by decide +kernel) ⟨Nat.le_trans (by decide) hR1, Nat.le_trans (by decide) hR2⟩) hs18 rfl rfl hl.1 (Nat.le_of_ble_eq_true rfl) d_Explorer_isRace_87 ⟨Nat.zero_le _, Nat.zero_le _⟩) (fun H locs hw => ?_)
        refine lv_if_eq hx hb d_Explorer_isRace_90 (tgt := 97) rfl (fun hc => ?_) (fun hc => ?_)
        · have hf := (if_pos hc).symm.trans hf
          refine lv_iconst (v := 0) hx hb d_Explorer_isRace_97 (by decide) ?_
          exact K98 k23 hk23 x1 x2 x4 x5 r13 0 x3 σ15 H locs ls hf hw (lv_sub hl [2, 3, 4, 6, 7, 0] rfl)
        · have hf := (if_neg hc).symm.trans hf
          refine lv_iconst (v := 1) hx hb d_Explorer_isRace_93 (by decide) ?_
          refine lv_goto hx hb d_Explorer_isRace_94 (tgt := 98) rfl ?_
          exact K98 k23 hk23 x1 x2 x4 x5 r13 1 x3 σ15 H locs ls hf hw (lv_sub hl [2, 3, 4, 6, 7, 0] rfl)
  have K23 : ∀ (n : Nat) (x1 : Int32) (x2 : Int32) (x3 : Int32) (x4 : Int32) (x5 : Int32) (σ : zs_S) (H : Heap) (locs : List Loc) (ls : Array Slot), zf_Explorer_isRace_23 F n x1 x2 x3 x4 x5 σ = some q → zs_I 0 D cA ad A s σ H locs → lv_has ls 8 [(0, .ref (ad 138)), (1, .int x1), (2, .int x2), (3, .int x3), (4, .int x4), (5, .int x5)] → W p l e RR s m args below meth c H locs 0 0 QQ (F0 m 23 ls []) := by
    intro  n
    induction n with
    | zero => intro x1 x2 x3 x4 x5 σ H locs ls hf hw hl; exact nomatch (show (none : Option (Int32 × zs_S)) = some q from hf)
    | succ n ih =>
      intro x1 x2 x3 x4 x5 σ H locs ls hf hw hl
      rw [zf_Explorer_isRace_23] at hf
      refine lv_iload hx hb d_Explorer_isRace_23 (lv_at hl 5 rfl) ?_
      refine lv_aload_n hx hb d_Explorer_isRace_25 rfl (lv_at hl 0 rfl) ?_
      obtain ⟨q4, e_q4, h_q4, hf⟩ := zq_qs hf
      refine zr_get (ci := 4) G hw 138 1 zi_4 rfl rfl rfl (by decide) zm_141 (fun _ h => h) (v := .ref (ad q4)) (zs_fr rfl e_q4 h_q4) d_Explorer_isRace_26 ?_
      obtain ⟨hs5, hf⟩ := zq_gs hf
      have hs5 := zq_ks hs5
      refine zr_get (ci := 5) G hw q4 2 zi_5 hs5 rfl rfl (by decide) zm_172 (fun _ h => h) (v := .int (zs_i σ q4 2)) rfl d_Explorer_isRace_29 ?_
      refine lv_icmp_ge hx hb d_Explorer_isRace_32 (tgt := 125) rfl (fun hc => ?_) (fun hc => ?_)
      · have hf := (if_pos hc).symm.trans hf
        refine lv_iload_n hx hb d_Explorer_isRace_125 rfl (lv_at hl 3 rfl) ?_
        refine lv_iconst (v := 1) hx hb d_Explorer_isRace_126 (by decide) ?_
        refine lv_icmp_le hx hb d_Explorer_isRace_127 (tgt := 139) rfl (fun hc => ?_) (fun hc => ?_)
        · have hf := (if_pos hc).symm.trans hf
          exact K139 σ H locs ls hf hw (lv_sub hl [] rfl)
        · have hf := (if_neg hc).symm.trans hf
          refine lv_iload hx hb d_Explorer_isRace_130 (lv_at hl 4 rfl) ?_
          refine lv_if_le hx hb d_Explorer_isRace_132 (tgt := 139) rfl (fun hc => ?_) (fun hc => ?_)
          · have hf := (if_pos hc).symm.trans hf
            exact K139 σ H locs ls hf hw (lv_sub hl [] rfl)
          · have hf := (if_neg hc).symm.trans hf
            refine lv_iconst (v := 1) hx hb d_Explorer_isRace_135 (by decide) ?_
            refine lv_goto hx hb d_Explorer_isRace_136 (tgt := 140) rfl ?_
            exact K140 1 σ H locs ls hf hw (lv_sub hl [] rfl)
      · have hf := (if_neg hc).symm.trans hf
        refine lv_aload_n hx hb d_Explorer_isRace_35 rfl (lv_at hl 0 rfl) ?_
        refine zr_get (ci := 4) G hw 138 0 zi_4 rfl rfl rfl (by decide) zm_143 (fun _ h => h) (v := .ref (ad 10)) rfl d_Explorer_isRace_36 ?_
        refine lv_iload_n hx hb d_Explorer_isRace_39 rfl (lv_at hl 1 rfl) ?_
        refine lv_bipush (v := 16) hx hb d_Explorer_isRace_40 (by decide) ?_
        refine lv_iload hx hb d_Explorer_isRace_42 (lv_at hl 5 rfl) ?_
        refine lv_iadd hx hb d_Explorer_isRace_44 ?_
        obtain ⟨r7, σ6, hc8, hf⟩ := zq_cs hf
        refine zr_ci hw (zr_runV (rest := []) (ci := 3) (o := 10) G hw [.int x1, .int (16 + x5)] (zc_States_cell hJ hc8) (cwV 2 hts (zs_gV zm_145 zm_146 zm_147 zm_39 zm_144) rfl rfl rfl (by decide +kernel) ⟨Nat.le_trans (by decide) hR1, Nat.le_trans (by decide) hR2⟩) rfl rfl rfl hl.1 (Nat.le_of_ble_eq_true rfl) d_Explorer_isRace_45 ⟨Nat.zero_le _, Nat.zero_le _⟩) (fun H locs hw => ?_)
        refine lv_iconst (v := 2) hx hb d_Explorer_isRace_48 (by decide) ?_
        refine lv_icmp_ne hx hb d_Explorer_isRace_49 (tgt := 56) rfl (fun hc => ?_) (fun hc => ?_)
        · have hf := (if_neg hc).symm.trans hf
          refine lv_iconst (v := 0) hx hb d_Explorer_isRace_56 (by decide) ?_
          exact K57 (zf_Explorer_isRace_23 F n) ih x1 x2 x3 x4 x5 0 σ6 H locs ls hf hw (lv_sub hl [0, 1, 2, 3, 4, 5] rfl)
        · have hf := (if_pos hc).symm.trans hf
          refine lv_iconst (v := 1) hx hb d_Explorer_isRace_52 (by decide) ?_
          refine lv_goto hx hb d_Explorer_isRace_53 (tgt := 57) rfl ?_
          exact K57 (zf_Explorer_isRace_23 F n) ih x1 x2 x3 x4 x5 1 σ6 H locs ls hf hw (lv_sub hl [0, 1, 2, 3, 4, 5] rfl)
  unfold zf_Explorer_isRace at hf
  refine lv_aload_n hx hb d_Explorer_isRace_0 rfl (lv_at hl 0 rfl) ?_
  refine zr_get (ci := 4) G hw 138 0 zi_4 rfl rfl rfl (by decide) zm_143 (fun _ h => h) (v := .ref (ad 10)) rfl d_Explorer_isRace_1 ?_
  refine lv_iload_n hx hb d_Explorer_isRace_4 rfl (lv_at hl 1 rfl) ?_
  refine lv_bipush (v := 32) hx hb d_Explorer_isRace_5 (by decide) ?_
  obtain ⟨r2, σ1, hc3, hf⟩ := zq_cs hf
  refine zr_ci hw (zr_runV (rest := []) (ci := 3) (o := 10) G hw [.int x1, .int 32] (zc_States_cell hJ hc3) (cwV 2 hts (zs_gV zm_145 zm_146 zm_147 zm_39 zm_144) rfl rfl rfl (by decide +kernel) ⟨Nat.le_trans (by decide) hR1, Nat.le_trans (by decide) hR2⟩) rfl rfl rfl hl.1 (Nat.le_of_ble_eq_true rfl) d_Explorer_isRace_7 ⟨Nat.zero_le _, Nat.zero_le _⟩) (fun H locs hw => ?_)
  refine lv_if_eq hx hb d_Explorer_isRace_10 (tgt := 15) rfl (fun hc => ?_) (fun hc => ?_)
  · have hf := (if_pos hc).symm.trans hf
    refine lv_iconst (v := 0) hx hb d_Explorer_isRace_15 (by decide) ?_
    refine lv_istore_n hx hb d_Explorer_isRace_16 rfl hl (by decide) rfl (fun ls hl => ?_)
    have hl : lv_has ls 8 [(3, .int 0), (0, .ref (ad 138)), (1, .int x1), (2, .int x2)] := hl
    refine lv_iconst (v := 0) hx hb d_Explorer_isRace_17 (by decide) ?_
    refine lv_istore hx hb d_Explorer_isRace_18 hl (by decide) rfl (fun ls hl => ?_)
    have hl : lv_has ls 8 [(4, .int 0), (3, .int 0), (0, .ref (ad 138)), (1, .int x1), (2, .int x2)] := hl
    refine lv_iconst (v := 0) hx hb d_Explorer_isRace_20 (by decide) ?_
    refine lv_istore hx hb d_Explorer_isRace_21 hl (by decide) rfl (fun ls hl => ?_)
    have hl : lv_has ls 8 [(5, .int 0), (4, .int 0), (3, .int 0), (0, .ref (ad 138)), (1, .int x1), (2, .int x2)] := hl
    exact K23 F x1 x2 0 0 0 σ1 H locs ls hf hw (lv_sub hl [3, 4, 5, 2, 1, 0] rfl)
  · have hf := (if_neg hc).symm.trans hf
    refine lv_iconst (v := 0) hx hb d_Explorer_isRace_13 (by decide) ?_
    exact zr_zret G hw hr hlocks (by decide) hf hQ d_Explorer_isRace_14
/-! ScheduleCheck$Explorer.buildFirst -/
def y_Explorer_buildFirst : MethodName := ⟨"ScheduleCheck$Explorer","buildFirst","()V"⟩
theorem d_Explorer_buildFirst_0 : decode prog_4_method_3_code 0 = .ok (.iconst 0, 1) := by decide +kernel
theorem d_Explorer_buildFirst_1 : decode prog_4_method_3_code 1 = .ok (.istore_n 1, 1) := by decide +kernel
theorem d_Explorer_buildFirst_2 : decode prog_4_method_3_code 2 = .ok (.iload_n 1, 1) := by decide +kernel
theorem d_Explorer_buildFirst_3 : decode prog_4_method_3_code 3 = .ok (.bipush 34, 2) := by decide +kernel
theorem d_Explorer_buildFirst_5 : decode prog_4_method_3_code 5 = .ok (.if_icmp .ge 18, 3) := by decide +kernel
theorem d_Explorer_buildFirst_8 : decode prog_4_method_3_code 8 = .ok (.aload_n 0, 1) := by decide +kernel
theorem d_Explorer_buildFirst_9 : decode prog_4_method_3_code 9 = .ok (.getfield 9, 3) := by decide +kernel
theorem d_Explorer_buildFirst_12 : decode prog_4_method_3_code 12 = .ok (.iload_n 1, 1) := by decide +kernel
theorem d_Explorer_buildFirst_13 : decode prog_4_method_3_code 13 = .ok (.iconst 0, 1) := by decide +kernel
theorem d_Explorer_buildFirst_14 : decode prog_4_method_3_code 14 = .ok (.invokevirtual 59, 3) := by decide +kernel
theorem d_Explorer_buildFirst_17 : decode prog_4_method_3_code 17 = .ok (.iinc 1 1, 3) := by decide +kernel
theorem d_Explorer_buildFirst_20 : decode prog_4_method_3_code 20 = .ok (.goto (-18), 3) := by decide +kernel
theorem d_Explorer_buildFirst_23 : decode prog_4_method_3_code 23 = .ok (.iconst 0, 1) := by decide +kernel
theorem d_Explorer_buildFirst_24 : decode prog_4_method_3_code 24 = .ok (.istore_n 1, 1) := by decide +kernel
theorem d_Explorer_buildFirst_25 : decode prog_4_method_3_code 25 = .ok (.iload_n 1, 1) := by decide +kernel
theorem d_Explorer_buildFirst_26 : decode prog_4_method_3_code 26 = .ok (.aload_n 0, 1) := by decide +kernel
theorem d_Explorer_buildFirst_27 : decode prog_4_method_3_code 27 = .ok (.getfield 15, 3) := by decide +kernel
theorem d_Explorer_buildFirst_30 : decode prog_4_method_3_code 30 = .ok (.getfield 62, 3) := by decide +kernel
theorem d_Explorer_buildFirst_33 : decode prog_4_method_3_code 33 = .ok (.if_icmp .ge 26, 3) := by decide +kernel
theorem d_Explorer_buildFirst_36 : decode prog_4_method_3_code 36 = .ok (.aload_n 0, 1) := by decide +kernel
theorem d_Explorer_buildFirst_37 : decode prog_4_method_3_code 37 = .ok (.getfield 9, 3) := by decide +kernel
theorem d_Explorer_buildFirst_40 : decode prog_4_method_3_code 40 = .ok (.iload_n 1, 1) := by decide +kernel
theorem d_Explorer_buildFirst_41 : decode prog_4_method_3_code 41 = .ok (.aload_n 0, 1) := by decide +kernel
theorem d_Explorer_buildFirst_42 : decode prog_4_method_3_code 42 = .ok (.getfield 15, 3) := by decide +kernel
theorem d_Explorer_buildFirst_45 : decode prog_4_method_3_code 45 = .ok (.getfield 65, 3) := by decide +kernel
theorem d_Explorer_buildFirst_48 : decode prog_4_method_3_code 48 = .ok (.iload_n 1, 1) := by decide +kernel
theorem d_Explorer_buildFirst_49 : decode prog_4_method_3_code 49 = .ok (.iaload, 1) := by decide +kernel
theorem d_Explorer_buildFirst_50 : decode prog_4_method_3_code 50 = .ok (.invokevirtual 59, 3) := by decide +kernel
theorem d_Explorer_buildFirst_53 : decode prog_4_method_3_code 53 = .ok (.iinc 1 1, 3) := by decide +kernel
theorem d_Explorer_buildFirst_56 : decode prog_4_method_3_code 56 = .ok (.goto (-31), 3) := by decide +kernel
theorem d_Explorer_buildFirst_59 : decode prog_4_method_3_code 59 = .ok (.iconst 0, 1) := by decide +kernel
theorem d_Explorer_buildFirst_60 : decode prog_4_method_3_code 60 = .ok (.istore_n 1, 1) := by decide +kernel
theorem d_Explorer_buildFirst_61 : decode prog_4_method_3_code 61 = .ok (.iload_n 1, 1) := by decide +kernel
theorem d_Explorer_buildFirst_62 : decode prog_4_method_3_code 62 = .ok (.iconst 4, 1) := by decide +kernel
theorem d_Explorer_buildFirst_63 : decode prog_4_method_3_code 63 = .ok (.if_icmp .ge 21, 3) := by decide +kernel
theorem d_Explorer_buildFirst_66 : decode prog_4_method_3_code 66 = .ok (.aload_n 0, 1) := by decide +kernel
theorem d_Explorer_buildFirst_67 : decode prog_4_method_3_code 67 = .ok (.getfield 9, 3) := by decide +kernel
theorem d_Explorer_buildFirst_70 : decode prog_4_method_3_code 70 = .ok (.bipush 8, 2) := by decide +kernel
theorem d_Explorer_buildFirst_72 : decode prog_4_method_3_code 72 = .ok (.iload_n 1, 1) := by decide +kernel
theorem d_Explorer_buildFirst_73 : decode prog_4_method_3_code 73 = .ok (.iadd, 1) := by decide +kernel
theorem d_Explorer_buildFirst_74 : decode prog_4_method_3_code 74 = .ok (.iconst (-1), 1) := by decide +kernel
theorem d_Explorer_buildFirst_75 : decode prog_4_method_3_code 75 = .ok (.invokevirtual 59, 3) := by decide +kernel
theorem d_Explorer_buildFirst_78 : decode prog_4_method_3_code 78 = .ok (.iinc 1 1, 3) := by decide +kernel
theorem d_Explorer_buildFirst_81 : decode prog_4_method_3_code 81 = .ok (.goto (-20), 3) := by decide +kernel
theorem d_Explorer_buildFirst_84 : decode prog_4_method_3_code 84 = .ok (.iconst 0, 1) := by decide +kernel
theorem d_Explorer_buildFirst_85 : decode prog_4_method_3_code 85 = .ok (.istore_n 1, 1) := by decide +kernel
theorem d_Explorer_buildFirst_86 : decode prog_4_method_3_code 86 = .ok (.iload_n 1, 1) := by decide +kernel
theorem d_Explorer_buildFirst_87 : decode prog_4_method_3_code 87 = .ok (.aload_n 0, 1) := by decide +kernel
theorem d_Explorer_buildFirst_88 : decode prog_4_method_3_code 88 = .ok (.getfield 15, 3) := by decide +kernel
theorem d_Explorer_buildFirst_91 : decode prog_4_method_3_code 91 = .ok (.getfield 43, 3) := by decide +kernel
theorem d_Explorer_buildFirst_94 : decode prog_4_method_3_code 94 = .ok (.if_icmp .ge 29, 3) := by decide +kernel
theorem d_Explorer_buildFirst_97 : decode prog_4_method_3_code 97 = .ok (.aload_n 0, 1) := by decide +kernel
theorem d_Explorer_buildFirst_98 : decode prog_4_method_3_code 98 = .ok (.getfield 9, 3) := by decide +kernel
theorem d_Explorer_buildFirst_101 : decode prog_4_method_3_code 101 = .ok (.bipush 12, 2) := by decide +kernel
theorem d_Explorer_buildFirst_103 : decode prog_4_method_3_code 103 = .ok (.iload_n 1, 1) := by decide +kernel
theorem d_Explorer_buildFirst_104 : decode prog_4_method_3_code 104 = .ok (.iadd, 1) := by decide +kernel
theorem d_Explorer_buildFirst_105 : decode prog_4_method_3_code 105 = .ok (.aload_n 0, 1) := by decide +kernel
theorem d_Explorer_buildFirst_106 : decode prog_4_method_3_code 106 = .ok (.getfield 15, 3) := by decide +kernel
theorem d_Explorer_buildFirst_109 : decode prog_4_method_3_code 109 = .ok (.getfield 69, 3) := by decide +kernel
theorem d_Explorer_buildFirst_112 : decode prog_4_method_3_code 112 = .ok (.iload_n 1, 1) := by decide +kernel
theorem d_Explorer_buildFirst_113 : decode prog_4_method_3_code 113 = .ok (.iaload, 1) := by decide +kernel
theorem d_Explorer_buildFirst_114 : decode prog_4_method_3_code 114 = .ok (.invokevirtual 59, 3) := by decide +kernel
theorem d_Explorer_buildFirst_117 : decode prog_4_method_3_code 117 = .ok (.iinc 1 1, 3) := by decide +kernel
theorem d_Explorer_buildFirst_120 : decode prog_4_method_3_code 120 = .ok (.goto (-34), 3) := by decide +kernel
theorem d_Explorer_buildFirst_123 : decode prog_4_method_3_code 123 = .ok (.aload_n 0, 1) := by decide +kernel
theorem d_Explorer_buildFirst_124 : decode prog_4_method_3_code 124 = .ok (.getfield 9, 3) := by decide +kernel
theorem d_Explorer_buildFirst_127 : decode prog_4_method_3_code 127 = .ok (.bipush 33, 2) := by decide +kernel
theorem d_Explorer_buildFirst_129 : decode prog_4_method_3_code 129 = .ok (.iconst (-1), 1) := by decide +kernel
theorem d_Explorer_buildFirst_130 : decode prog_4_method_3_code 130 = .ok (.invokevirtual 59, 3) := by decide +kernel
theorem d_Explorer_buildFirst_133 : decode prog_4_method_3_code 133 = .ok (.return_, 1) := by decide +kernel
def zf_Explorer_buildFirst_86 (F : Nat)  : Nat → Int32 → zs_S → Option (zs_S)
  | 0, _, _ => none
  | n + 1, x1, σ =>
    zq_q (zs_r σ 138 1) fun q20 =>
    zq_g (zq_k 0 q20 15) <|
    if (zs_i σ q20 2) ≤ x1 then (
      zq_d (zf_States_set F 33 ((-1)) σ) fun σ22 =>
      some σ22
    ) else (
      zq_q (zs_r σ 138 1) fun q25 =>
      zq_g (zq_k 0 q25 15) <|
      zq_q (zd_rf 0 q25 6) fun q27 =>
      zq_g (zq_k 0 q27 0) <|
      zq_g (zq_b x1 (zd_sh 0 q27).2) <|
      zq_d (zf_States_set F (12 + x1) (zs_i σ q27 (x1).toNatClampNeg) σ) fun σ30 =>
      zq_v (x1 + 1) fun v33 =>
      (zf_Explorer_buildFirst_86 F n) v33 σ30
    )
def zf_Explorer_buildFirst_61 (F : Nat)  : Nat → Int32 → zs_S → Option (zs_S)
  | 0, _, _ => none
  | n + 1, x1, σ =>
    if 4 ≤ x1 then (
      zf_Explorer_buildFirst_86 F F 0 σ
    ) else (
      zq_d (zf_States_set F (8 + x1) ((-1)) σ) fun σ16 =>
      zq_v (x1 + 1) fun v19 =>
      (zf_Explorer_buildFirst_61 F n) v19 σ16
    )
def zf_Explorer_buildFirst_25 (F : Nat)  : Nat → Int32 → zs_S → Option (zs_S)
  | 0, _, _ => none
  | n + 1, x1, σ =>
    zq_q (zs_r σ 138 1) fun q5 =>
    zq_g (zq_k 0 q5 15) <|
    if (zs_i σ q5 0) ≤ x1 then (
      zf_Explorer_buildFirst_61 F F 0 σ
    ) else (
      zq_q (zs_r σ 138 1) fun q7 =>
      zq_g (zq_k 0 q7 15) <|
      zq_q (zd_rf 0 q7 4) fun q9 =>
      zq_g (zq_k 0 q9 0) <|
      zq_g (zq_b x1 (zd_sh 0 q9).2) <|
      zq_d (zf_States_set F x1 (zs_i σ q9 (x1).toNatClampNeg) σ) fun σ12 =>
      zq_v (x1 + 1) fun v15 =>
      (zf_Explorer_buildFirst_25 F n) v15 σ12
    )
def zf_Explorer_buildFirst_2 (F : Nat)  : Nat → Int32 → zs_S → Option (zs_S)
  | 0, _, _ => none
  | n + 1, x1, σ =>
    if 34 ≤ x1 then (
      zf_Explorer_buildFirst_25 F F 0 σ
    ) else (
      zq_d (zf_States_set F x1 0 σ) fun σ1 =>
      zq_v (x1 + 1) fun v4 =>
      (zf_Explorer_buildFirst_2 F n) v4 σ1
    )
def zf_Explorer_buildFirst (F : Nat)  (σ : zs_S) : Option (zs_S) :=
  zf_Explorer_buildFirst_2 F F 0 σ
set_option maxHeartbeats 4000000 in
set_option maxRecDepth 100000 in
theorem zc_Explorer_buildFirst {l : Launch} {D : va_G} {cA : Nat → ClassId} {ad : Nat → Nat} {A : Nat → Prop} {F : Nat}  {σ : zs_S} {q : zs_S} (hJ : zs_J ad) (hf : zf_Explorer_buildFirst F  σ = some q) : Met l y_Explorer_buildFirst (.code y_Explorer_buildFirst prog_4_method_3_code 2 none :: zd_ww) { frames := 1, cells := 0, slots := 0, locals := 22 } (va_Pc [.ref (ad 138)] (zs_U 0 D cA ad A σ)) (zs_Qv 0 D cA ad A q) 0 0 A := by
  refine Met.ofW (cc := prog_4_method_3_code) (maxL := 2) (ret := none) (by decide) rfl ?_
  intro p e s m args below meth c s₁ B hml hv
  obtain ⟨hargs, hP, hK, hD, hZ⟩ := hv
  have G : zs_G 0 p s m args c prog_4_method_3_code 2 "ScheduleCheck$Explorer" D cA ad A := ⟨⟨B.exec, B.bytes, hml, findClass_of_methodNamed B.named, fun w h => atoms_spec B.pre w (List.mem_cons_of_mem _ h)⟩, hK, hJ, hZ⟩
  have hw : zs_I 0 D cA ad A s σ s.heap [] := ⟨hP, hD, va_S.rf⟩
  have hx := G.1.1
  have hb := G.1.2.1
  have hown := G.1.2.2.2.1
  have hts := G.1.2.2.2.2
  have hr := B.returns
  have hlocks := B.notSynchronized
  have he : entryFrame m args 2 = F0 m 0 ((lg_sl [.ref (ad 138)] ++ List.replicate (2 - (lg_sl [.ref (ad 138)]).length) Slot.unset).toArray) [] := by rw [hargs]; exact lg_entry_eq m _ 2
  have hl := lv_entry [.ref (ad 138)] (n := 2) (Nat.le_of_ble_eq_true rfl)
  rw [he]
  generalize (lg_sl [.ref (ad 138)] ++ List.replicate (2 - (lg_sl [.ref (ad 138)]).length) Slot.unset).toArray = ls at hl
  have hl : lv_has ls 2 [(0, .ref (ad 138))] := hl
  obtain ⟨RR, hR⟩ : ∃ z, z = (headSpec (.code y_Explorer_buildFirst prog_4_method_3_code 2 none :: zd_ww) { frames := 1, cells := 0, slots := 0, locals := 22 }).room := ⟨_, rfl⟩
  rw [← hR]
  obtain ⟨QQ, hQ⟩ : ∃ z, z = MQ below (zs_Qv 0 D cA ad A q) args s 0 0 A := ⟨_, rfl⟩
  rw [← hQ]
  have hR1 : 1 ≤ RR.frames := by rw [hR]; exact Nat.le_refl _
  have hR2 : 22 ≤ RR.locals := by rw [hR]; exact Nat.le_refl _
  generalize s.heap = H at hw ⊢
  generalize ([] : List Loc) = locs at hw ⊢
  have K86 : ∀ (n : Nat) (x1 : Int32) (σ : zs_S) (H : Heap) (locs : List Loc) (ls : Array Slot), zf_Explorer_buildFirst_86 F n x1 σ = some q → zs_I 0 D cA ad A s σ H locs → lv_has ls 2 [(0, .ref (ad 138)), (1, .int x1)] → W p l e RR s m args below meth c H locs 0 0 QQ (F0 m 86 ls []) := by
    intro  n
    induction n with
    | zero => intro x1 σ H locs ls hf hw hl; exact nomatch (show (none : Option (zs_S)) = some q from hf)
    | succ n ih =>
      intro x1 σ H locs ls hf hw hl
      rw [zf_Explorer_buildFirst_86] at hf
      refine lv_iload_n hx hb d_Explorer_buildFirst_86 rfl (lv_at hl 1 rfl) ?_
      refine lv_aload_n hx hb d_Explorer_buildFirst_87 rfl (lv_at hl 0 rfl) ?_
      obtain ⟨q20, e_q20, h_q20, hf⟩ := zq_qs hf
      refine zr_get (ci := 4) G hw 138 1 zi_4 rfl rfl rfl (by decide) zm_141 (fun _ h => h) (v := .ref (ad q20)) (zs_fr rfl e_q20 h_q20) d_Explorer_buildFirst_88 ?_
      obtain ⟨hs21, hf⟩ := zq_gs hf
      have hs21 := zq_ks hs21
      refine zr_get (ci := 5) G hw q20 2 zi_5 hs21 rfl rfl (by decide) zm_172 (fun _ h => h) (v := .int (zs_i σ q20 2)) rfl d_Explorer_buildFirst_91 ?_
      refine lv_icmp_ge hx hb d_Explorer_buildFirst_94 (tgt := 123) rfl (fun hc => ?_) (fun hc => ?_)
      · have hf := (if_pos hc).symm.trans hf
        refine lv_aload_n hx hb d_Explorer_buildFirst_123 rfl (lv_at hl 0 rfl) ?_
        refine zr_get (ci := 4) G hw 138 0 zi_4 rfl rfl rfl (by decide) zm_143 (fun _ h => h) (v := .ref (ad 10)) rfl d_Explorer_buildFirst_124 ?_
        refine lv_bipush (v := 33) hx hb d_Explorer_buildFirst_127 (by decide) ?_
        refine lv_iconst (v := (-1)) hx hb d_Explorer_buildFirst_129 (by decide) ?_
        obtain ⟨σ22, hc24, hf⟩ := zq_ds hf
        refine zr_cv hw (zr_runV (rest := []) (ci := 3) (o := 10) G hw [.int 33, .int ((-1))] (zc_States_set hJ hc24) (cwV 2 hts (zs_gV zm_165 zm_166 zm_167 zm_39 zm_164) rfl rfl rfl (by decide +kernel) ⟨Nat.le_trans (by decide) hR1, Nat.le_trans (by decide) hR2⟩) rfl rfl rfl hl.1 (Nat.le_of_ble_eq_true rfl) d_Explorer_buildFirst_130 ⟨Nat.zero_le _, Nat.zero_le _⟩) (fun H locs hw => ?_)
        exact zr_vret G hw hr hlocks hf hQ d_Explorer_buildFirst_133
      · have hf := (if_neg hc).symm.trans hf
        refine lv_aload_n hx hb d_Explorer_buildFirst_97 rfl (lv_at hl 0 rfl) ?_
        refine zr_get (ci := 4) G hw 138 0 zi_4 rfl rfl rfl (by decide) zm_143 (fun _ h => h) (v := .ref (ad 10)) rfl d_Explorer_buildFirst_98 ?_
        refine lv_bipush (v := 12) hx hb d_Explorer_buildFirst_101 (by decide) ?_
        refine lv_iload_n hx hb d_Explorer_buildFirst_103 rfl (lv_at hl 1 rfl) ?_
        refine lv_iadd hx hb d_Explorer_buildFirst_104 ?_
        refine lv_aload_n hx hb d_Explorer_buildFirst_105 rfl (lv_at hl 0 rfl) ?_
        obtain ⟨q25, e_q25, h_q25, hf⟩ := zq_qs hf
        refine zr_get (ci := 4) G hw 138 1 zi_4 rfl rfl rfl (by decide) zm_141 (fun _ h => h) (v := .ref (ad q25)) (zs_fr rfl e_q25 h_q25) d_Explorer_buildFirst_106 ?_
        obtain ⟨hs26, hf⟩ := zq_gs hf
        have hs26 := zq_ks hs26
        obtain ⟨q27, e_q27, h_q27, hf⟩ := zq_qs hf
        refine zr_get (ci := 5) G hw q25 6 zi_5 hs26 rfl rfl (by decide) zm_239 (fun _ h => h) (v := .ref (ad q27)) (zs_fs rfl e_q27 h_q27) d_Explorer_buildFirst_109 ?_
        refine lv_iload_n hx hb d_Explorer_buildFirst_112 rfl (lv_at hl 1 rfl) ?_
        obtain ⟨hs28, hf⟩ := zq_gs hf
        have hs28 := zq_ks hs28
        obtain ⟨hi29, hf⟩ := zq_gs hf
        refine zr_iald G hw q27 hs28 rfl hi29 d_Explorer_buildFirst_113 ?_
        obtain ⟨σ30, hc32, hf⟩ := zq_ds hf
        refine zr_cv hw (zr_runV (rest := []) (ci := 3) (o := 10) G hw [.int (12 + x1), .int (zs_i σ q27 (x1).toNatClampNeg)] (zc_States_set hJ hc32) (cwV 2 hts (zs_gV zm_165 zm_166 zm_167 zm_39 zm_164) rfl rfl rfl (by decide +kernel) ⟨Nat.le_trans (by decide) hR1, Nat.le_trans (by decide) hR2⟩) rfl rfl rfl hl.1 (Nat.le_of_ble_eq_true rfl) d_Explorer_buildFirst_114 ⟨Nat.zero_le _, Nat.zero_le _⟩) (fun H locs hw => ?_)
        obtain ⟨v33, e_v33, hf⟩ := zq_ss hf
        refine lv_iinc (v := v33) hx hb d_Explorer_buildFirst_117 hl (k := 1) rfl (zq_inc (k := 1) (by decide) e_v33) (by decide) rfl (fun ls hl => ?_)
        have hl : lv_has ls 2 [(1, .int v33), (0, .ref (ad 138))] := hl
        refine lv_goto hx hb d_Explorer_buildFirst_120 (tgt := 86) rfl ?_
        exact ih v33 σ30 H locs ls hf hw (lv_sub hl [1, 0] rfl)
  have K61 : ∀ (n : Nat) (x1 : Int32) (σ : zs_S) (H : Heap) (locs : List Loc) (ls : Array Slot), zf_Explorer_buildFirst_61 F n x1 σ = some q → zs_I 0 D cA ad A s σ H locs → lv_has ls 2 [(0, .ref (ad 138)), (1, .int x1)] → W p l e RR s m args below meth c H locs 0 0 QQ (F0 m 61 ls []) := by
    intro  n
    induction n with
    | zero => intro x1 σ H locs ls hf hw hl; exact nomatch (show (none : Option (zs_S)) = some q from hf)
    | succ n ih =>
      intro x1 σ H locs ls hf hw hl
      rw [zf_Explorer_buildFirst_61] at hf
      refine lv_iload_n hx hb d_Explorer_buildFirst_61 rfl (lv_at hl 1 rfl) ?_
      refine lv_iconst (v := 4) hx hb d_Explorer_buildFirst_62 (by decide) ?_
      refine lv_icmp_ge hx hb d_Explorer_buildFirst_63 (tgt := 84) rfl (fun hc => ?_) (fun hc => ?_)
      · have hf := (if_pos hc).symm.trans hf
        refine lv_iconst (v := 0) hx hb d_Explorer_buildFirst_84 (by decide) ?_
        refine lv_istore_n hx hb d_Explorer_buildFirst_85 rfl hl (by decide) rfl (fun ls hl => ?_)
        have hl : lv_has ls 2 [(1, .int 0), (0, .ref (ad 138))] := hl
        exact K86 F 0 σ H locs ls hf hw (lv_sub hl [1, 0] rfl)
      · have hf := (if_neg hc).symm.trans hf
        refine lv_aload_n hx hb d_Explorer_buildFirst_66 rfl (lv_at hl 0 rfl) ?_
        refine zr_get (ci := 4) G hw 138 0 zi_4 rfl rfl rfl (by decide) zm_143 (fun _ h => h) (v := .ref (ad 10)) rfl d_Explorer_buildFirst_67 ?_
        refine lv_bipush (v := 8) hx hb d_Explorer_buildFirst_70 (by decide) ?_
        refine lv_iload_n hx hb d_Explorer_buildFirst_72 rfl (lv_at hl 1 rfl) ?_
        refine lv_iadd hx hb d_Explorer_buildFirst_73 ?_
        refine lv_iconst (v := (-1)) hx hb d_Explorer_buildFirst_74 (by decide) ?_
        obtain ⟨σ16, hc18, hf⟩ := zq_ds hf
        refine zr_cv hw (zr_runV (rest := []) (ci := 3) (o := 10) G hw [.int (8 + x1), .int ((-1))] (zc_States_set hJ hc18) (cwV 2 hts (zs_gV zm_165 zm_166 zm_167 zm_39 zm_164) rfl rfl rfl (by decide +kernel) ⟨Nat.le_trans (by decide) hR1, Nat.le_trans (by decide) hR2⟩) rfl rfl rfl hl.1 (Nat.le_of_ble_eq_true rfl) d_Explorer_buildFirst_75 ⟨Nat.zero_le _, Nat.zero_le _⟩) (fun H locs hw => ?_)
        obtain ⟨v19, e_v19, hf⟩ := zq_ss hf
        refine lv_iinc (v := v19) hx hb d_Explorer_buildFirst_78 hl (k := 1) rfl (zq_inc (k := 1) (by decide) e_v19) (by decide) rfl (fun ls hl => ?_)
        have hl : lv_has ls 2 [(1, .int v19), (0, .ref (ad 138))] := hl
        refine lv_goto hx hb d_Explorer_buildFirst_81 (tgt := 61) rfl ?_
        exact ih v19 σ16 H locs ls hf hw (lv_sub hl [1, 0] rfl)
  have K25 : ∀ (n : Nat) (x1 : Int32) (σ : zs_S) (H : Heap) (locs : List Loc) (ls : Array Slot), zf_Explorer_buildFirst_25 F n x1 σ = some q → zs_I 0 D cA ad A s σ H locs → lv_has ls 2 [(0, .ref (ad 138)), (1, .int x1)] → W p l e RR s m args below meth c H locs 0 0 QQ (F0 m 25 ls []) := by
    intro  n
    induction n with
    | zero => intro x1 σ H locs ls hf hw hl; exact nomatch (show (none : Option (zs_S)) = some q from hf)
    | succ n ih =>
      intro x1 σ H locs ls hf hw hl
      rw [zf_Explorer_buildFirst_25] at hf
      refine lv_iload_n hx hb d_Explorer_buildFirst_25 rfl (lv_at hl 1 rfl) ?_
      refine lv_aload_n hx hb d_Explorer_buildFirst_26 rfl (lv_at hl 0 rfl) ?_
      obtain ⟨q5, e_q5, h_q5, hf⟩ := zq_qs hf
      refine zr_get (ci := 4) G hw 138 1 zi_4 rfl rfl rfl (by decide) zm_141 (fun _ h => h) (v := .ref (ad q5)) (zs_fr rfl e_q5 h_q5) d_Explorer_buildFirst_27 ?_
      obtain ⟨hs6, hf⟩ := zq_gs hf
      have hs6 := zq_ks hs6
      refine zr_get (ci := 5) G hw q5 0 zi_5 hs6 rfl rfl (by decide) zm_237 (fun _ h => h) (v := .int (zs_i σ q5 0)) rfl d_Explorer_buildFirst_30 ?_
      refine lv_icmp_ge hx hb d_Explorer_buildFirst_33 (tgt := 59) rfl (fun hc => ?_) (fun hc => ?_)
      · have hf := (if_pos hc).symm.trans hf
        refine lv_iconst (v := 0) hx hb d_Explorer_buildFirst_59 (by decide) ?_
        refine lv_istore_n hx hb d_Explorer_buildFirst_60 rfl hl (by decide) rfl (fun ls hl => ?_)
        have hl : lv_has ls 2 [(1, .int 0), (0, .ref (ad 138))] := hl
        exact K61 F 0 σ H locs ls hf hw (lv_sub hl [1, 0] rfl)
      · have hf := (if_neg hc).symm.trans hf
        refine lv_aload_n hx hb d_Explorer_buildFirst_36 rfl (lv_at hl 0 rfl) ?_
        refine zr_get (ci := 4) G hw 138 0 zi_4 rfl rfl rfl (by decide) zm_143 (fun _ h => h) (v := .ref (ad 10)) rfl d_Explorer_buildFirst_37 ?_
        refine lv_iload_n hx hb d_Explorer_buildFirst_40 rfl (lv_at hl 1 rfl) ?_
        refine lv_aload_n hx hb d_Explorer_buildFirst_41 rfl (lv_at hl 0 rfl) ?_
        obtain ⟨q7, e_q7, h_q7, hf⟩ := zq_qs hf
        refine zr_get (ci := 4) G hw 138 1 zi_4 rfl rfl rfl (by decide) zm_141 (fun _ h => h) (v := .ref (ad q7)) (zs_fr rfl e_q7 h_q7) d_Explorer_buildFirst_42 ?_
        obtain ⟨hs8, hf⟩ := zq_gs hf
        have hs8 := zq_ks hs8
        obtain ⟨q9, e_q9, h_q9, hf⟩ := zq_qs hf
        refine zr_get (ci := 5) G hw q7 4 zi_5 hs8 rfl rfl (by decide) zm_238 (fun _ h => h) (v := .ref (ad q9)) (zs_fs rfl e_q9 h_q9) d_Explorer_buildFirst_45 ?_
        refine lv_iload_n hx hb d_Explorer_buildFirst_48 rfl (lv_at hl 1 rfl) ?_
        obtain ⟨hs10, hf⟩ := zq_gs hf
        have hs10 := zq_ks hs10
        obtain ⟨hi11, hf⟩ := zq_gs hf
        refine zr_iald G hw q9 hs10 rfl hi11 d_Explorer_buildFirst_49 ?_
        obtain ⟨σ12, hc14, hf⟩ := zq_ds hf
        refine zr_cv hw (zr_runV (rest := []) (ci := 3) (o := 10) G hw [.int x1, .int (zs_i σ q9 (x1).toNatClampNeg)] (zc_States_set hJ hc14) (cwV 2 hts (zs_gV zm_165 zm_166 zm_167 zm_39 zm_164) rfl rfl rfl (by decide +kernel) ⟨Nat.le_trans (by decide) hR1, Nat.le_trans (by decide) hR2⟩) rfl rfl rfl hl.1 (Nat.le_of_ble_eq_true rfl) d_Explorer_buildFirst_50 ⟨Nat.zero_le _, Nat.zero_le _⟩) (fun H locs hw => ?_)
        obtain ⟨v15, e_v15, hf⟩ := zq_ss hf
        refine lv_iinc (v := v15) hx hb d_Explorer_buildFirst_53 hl (k := 1) rfl (zq_inc (k := 1) (by decide) e_v15) (by decide) rfl (fun ls hl => ?_)
        have hl : lv_has ls 2 [(1, .int v15), (0, .ref (ad 138))] := hl
        refine lv_goto hx hb d_Explorer_buildFirst_56 (tgt := 25) rfl ?_
        exact ih v15 σ12 H locs ls hf hw (lv_sub hl [1, 0] rfl)
  have K2 : ∀ (n : Nat) (x1 : Int32) (σ : zs_S) (H : Heap) (locs : List Loc) (ls : Array Slot), zf_Explorer_buildFirst_2 F n x1 σ = some q → zs_I 0 D cA ad A s σ H locs → lv_has ls 2 [(0, .ref (ad 138)), (1, .int x1)] → W p l e RR s m args below meth c H locs 0 0 QQ (F0 m 2 ls []) := by
    intro  n
    induction n with
    | zero => intro x1 σ H locs ls hf hw hl; exact nomatch (show (none : Option (zs_S)) = some q from hf)
    | succ n ih =>
      intro x1 σ H locs ls hf hw hl
      rw [zf_Explorer_buildFirst_2] at hf
      refine lv_iload_n hx hb d_Explorer_buildFirst_2 rfl (lv_at hl 1 rfl) ?_
      refine lv_bipush (v := 34) hx hb d_Explorer_buildFirst_3 (by decide) ?_
      refine lv_icmp_ge hx hb d_Explorer_buildFirst_5 (tgt := 23) rfl (fun hc => ?_) (fun hc => ?_)
      · have hf := (if_pos hc).symm.trans hf
        refine lv_iconst (v := 0) hx hb d_Explorer_buildFirst_23 (by decide) ?_
        refine lv_istore_n hx hb d_Explorer_buildFirst_24 rfl hl (by decide) rfl (fun ls hl => ?_)
        have hl : lv_has ls 2 [(1, .int 0), (0, .ref (ad 138))] := hl
        exact K25 F 0 σ H locs ls hf hw (lv_sub hl [1, 0] rfl)
      · have hf := (if_neg hc).symm.trans hf
        refine lv_aload_n hx hb d_Explorer_buildFirst_8 rfl (lv_at hl 0 rfl) ?_
        refine zr_get (ci := 4) G hw 138 0 zi_4 rfl rfl rfl (by decide) zm_143 (fun _ h => h) (v := .ref (ad 10)) rfl d_Explorer_buildFirst_9 ?_
        refine lv_iload_n hx hb d_Explorer_buildFirst_12 rfl (lv_at hl 1 rfl) ?_
        refine lv_iconst (v := 0) hx hb d_Explorer_buildFirst_13 (by decide) ?_
        obtain ⟨σ1, hc3, hf⟩ := zq_ds hf
        refine zr_cv hw (zr_runV (rest := []) (ci := 3) (o := 10) G hw [.int x1, .int 0] (zc_States_set hJ hc3) (cwV 2 hts (zs_gV zm_165 zm_166 zm_167 zm_39 zm_164) rfl rfl rfl (by decide +kernel) ⟨Nat.le_trans (by decide) hR1, Nat.le_trans (by decide) hR2⟩) rfl rfl rfl hl.1 (Nat.le_of_ble_eq_true rfl) d_Explorer_buildFirst_14 ⟨Nat.zero_le _, Nat.zero_le _⟩) (fun H locs hw => ?_)
        obtain ⟨v4, e_v4, hf⟩ := zq_ss hf
        refine lv_iinc (v := v4) hx hb d_Explorer_buildFirst_17 hl (k := 1) rfl (zq_inc (k := 1) (by decide) e_v4) (by decide) rfl (fun ls hl => ?_)
        have hl : lv_has ls 2 [(1, .int v4), (0, .ref (ad 138))] := hl
        refine lv_goto hx hb d_Explorer_buildFirst_20 (tgt := 2) rfl ?_
        exact ih v4 σ1 H locs ls hf hw (lv_sub hl [1, 0] rfl)
  unfold zf_Explorer_buildFirst at hf
  refine lv_iconst (v := 0) hx hb d_Explorer_buildFirst_0 (by decide) ?_
  refine lv_istore_n hx hb d_Explorer_buildFirst_1 rfl hl (by decide) rfl (fun ls hl => ?_)
  have hl : lv_has ls 2 [(1, .int 0), (0, .ref (ad 138))] := hl
  exact K2 F 0 σ H locs ls hf hw (lv_sub hl [1, 0] rfl)
/-! ScheduleCheck$Explorer.explore -/
def y_Explorer_explore : MethodName := ⟨"ScheduleCheck$Explorer","explore","(LScheduleCheck$Program;)Z"⟩
theorem d_Explorer_explore_0 : decode prog_4_method_2_code 0 = .ok (.aload_n 0, 1) := by decide +kernel
theorem d_Explorer_explore_1 : decode prog_4_method_2_code 1 = .ok (.aload_n 1, 1) := by decide +kernel
theorem d_Explorer_explore_2 : decode prog_4_method_2_code 2 = .ok (.putfield 15, 3) := by decide +kernel
theorem d_Explorer_explore_5 : decode prog_4_method_2_code 5 = .ok (.aload_n 0, 1) := by decide +kernel
theorem d_Explorer_explore_6 : decode prog_4_method_2_code 6 = .ok (.getfield 9, 3) := by decide +kernel
theorem d_Explorer_explore_9 : decode prog_4_method_2_code 9 = .ok (.invokevirtual 19, 3) := by decide +kernel
theorem d_Explorer_explore_12 : decode prog_4_method_2_code 12 = .ok (.aload_n 0, 1) := by decide +kernel
theorem d_Explorer_explore_13 : decode prog_4_method_2_code 13 = .ok (.invokevirtual 24, 3) := by decide +kernel
theorem d_Explorer_explore_16 : decode prog_4_method_2_code 16 = .ok (.aload_n 0, 1) := by decide +kernel
theorem d_Explorer_explore_17 : decode prog_4_method_2_code 17 = .ok (.getfield 9, 3) := by decide +kernel
theorem d_Explorer_explore_20 : decode prog_4_method_2_code 20 = .ok (.iconst (-1), 1) := by decide +kernel
theorem d_Explorer_explore_21 : decode prog_4_method_2_code 21 = .ok (.iconst (-1), 1) := by decide +kernel
theorem d_Explorer_explore_22 : decode prog_4_method_2_code 22 = .ok (.invokevirtual 27, 3) := by decide +kernel
theorem d_Explorer_explore_25 : decode prog_4_method_2_code 25 = .ok (.iconst 0, 1) := by decide +kernel
theorem d_Explorer_explore_26 : decode prog_4_method_2_code 26 = .ok (.istore_n 2, 1) := by decide +kernel
theorem d_Explorer_explore_27 : decode prog_4_method_2_code 27 = .ok (.iload_n 2, 1) := by decide +kernel
theorem d_Explorer_explore_28 : decode prog_4_method_2_code 28 = .ok (.sipush 800, 3) := by decide +kernel
theorem d_Explorer_explore_31 : decode prog_4_method_2_code 31 = .ok (.if_icmp .ge 97, 3) := by decide +kernel
theorem d_Explorer_explore_34 : decode prog_4_method_2_code 34 = .ok (.iload_n 2, 1) := by decide +kernel
theorem d_Explorer_explore_35 : decode prog_4_method_2_code 35 = .ok (.aload_n 0, 1) := by decide +kernel
theorem d_Explorer_explore_36 : decode prog_4_method_2_code 36 = .ok (.getfield 9, 3) := by decide +kernel
theorem d_Explorer_explore_39 : decode prog_4_method_2_code 39 = .ok (.getfield 31, 3) := by decide +kernel
theorem d_Explorer_explore_42 : decode prog_4_method_2_code 42 = .ok (.if_icmp .ge 86, 3) := by decide +kernel
theorem d_Explorer_explore_45 : decode prog_4_method_2_code 45 = .ok (.aload_n 0, 1) := by decide +kernel
theorem d_Explorer_explore_46 : decode prog_4_method_2_code 46 = .ok (.getfield 9, 3) := by decide +kernel
theorem d_Explorer_explore_49 : decode prog_4_method_2_code 49 = .ok (.iload_n 2, 1) := by decide +kernel
theorem d_Explorer_explore_50 : decode prog_4_method_2_code 50 = .ok (.invokevirtual 35, 3) := by decide +kernel
theorem d_Explorer_explore_53 : decode prog_4_method_2_code 53 = .ok (.aload_n 0, 1) := by decide +kernel
theorem d_Explorer_explore_54 : decode prog_4_method_2_code 54 = .ok (.getfield 9, 3) := by decide +kernel
theorem d_Explorer_explore_57 : decode prog_4_method_2_code 57 = .ok (.iload_n 2, 1) := by decide +kernel
theorem d_Explorer_explore_58 : decode prog_4_method_2_code 58 = .ok (.bipush 32, 2) := by decide +kernel
theorem d_Explorer_explore_60 : decode prog_4_method_2_code 60 = .ok (.invokevirtual 39, 3) := by decide +kernel
theorem d_Explorer_explore_63 : decode prog_4_method_2_code 63 = .ok (.ifCond .ne 13, 3) := by decide +kernel
theorem d_Explorer_explore_66 : decode prog_4_method_2_code 66 = .ok (.aload_n 0, 1) := by decide +kernel
theorem d_Explorer_explore_67 : decode prog_4_method_2_code 67 = .ok (.getfield 15, 3) := by decide +kernel
theorem d_Explorer_explore_70 : decode prog_4_method_2_code 70 = .ok (.getfield 43, 3) := by decide +kernel
theorem d_Explorer_explore_73 : decode prog_4_method_2_code 73 = .ok (.goto 4, 3) := by decide +kernel
theorem d_Explorer_explore_76 : decode prog_4_method_2_code 76 = .ok (.iconst 0, 1) := by decide +kernel
theorem d_Explorer_explore_77 : decode prog_4_method_2_code 77 = .ok (.istore_n 3, 1) := by decide +kernel
theorem d_Explorer_explore_78 : decode prog_4_method_2_code 78 = .ok (.iconst 0, 1) := by decide +kernel
theorem d_Explorer_explore_79 : decode prog_4_method_2_code 79 = .ok (.istore 4, 2) := by decide +kernel
theorem d_Explorer_explore_81 : decode prog_4_method_2_code 81 = .ok (.iload 4, 2) := by decide +kernel
theorem d_Explorer_explore_83 : decode prog_4_method_2_code 83 = .ok (.iload_n 3, 1) := by decide +kernel
theorem d_Explorer_explore_84 : decode prog_4_method_2_code 84 = .ok (.if_icmp .ge 26, 3) := by decide +kernel
theorem d_Explorer_explore_87 : decode prog_4_method_2_code 87 = .ok (.aload_n 0, 1) := by decide +kernel
theorem d_Explorer_explore_88 : decode prog_4_method_2_code 88 = .ok (.iload_n 2, 1) := by decide +kernel
theorem d_Explorer_explore_89 : decode prog_4_method_2_code 89 = .ok (.iload 4, 2) := by decide +kernel
theorem d_Explorer_explore_91 : decode prog_4_method_2_code 91 = .ok (.invokevirtual 48, 3) := by decide +kernel
theorem d_Explorer_explore_94 : decode prog_4_method_2_code 94 = .ok (.ifCond .eq 10, 3) := by decide +kernel
theorem d_Explorer_explore_97 : decode prog_4_method_2_code 97 = .ok (.aload_n 0, 1) := by decide +kernel
theorem d_Explorer_explore_98 : decode prog_4_method_2_code 98 = .ok (.iload_n 2, 1) := by decide +kernel
theorem d_Explorer_explore_99 : decode prog_4_method_2_code 99 = .ok (.iload 4, 2) := by decide +kernel
theorem d_Explorer_explore_101 : decode prog_4_method_2_code 101 = .ok (.invokevirtual 52, 3) := by decide +kernel
theorem d_Explorer_explore_104 : decode prog_4_method_2_code 104 = .ok (.iinc 4 1, 3) := by decide +kernel
theorem d_Explorer_explore_107 : decode prog_4_method_2_code 107 = .ok (.goto (-26), 3) := by decide +kernel
theorem d_Explorer_explore_110 : decode prog_4_method_2_code 110 = .ok (.aload_n 0, 1) := by decide +kernel
theorem d_Explorer_explore_111 : decode prog_4_method_2_code 111 = .ok (.getfield 9, 3) := by decide +kernel
theorem d_Explorer_explore_114 : decode prog_4_method_2_code 114 = .ok (.getfield 55, 3) := by decide +kernel
theorem d_Explorer_explore_117 : decode prog_4_method_2_code 117 = .ok (.ifCond .eq 5, 3) := by decide +kernel
theorem d_Explorer_explore_120 : decode prog_4_method_2_code 120 = .ok (.iconst 0, 1) := by decide +kernel
theorem d_Explorer_explore_121 : decode prog_4_method_2_code 121 = .ok (.ireturn, 1) := by decide +kernel
theorem d_Explorer_explore_122 : decode prog_4_method_2_code 122 = .ok (.iinc 2 1, 3) := by decide +kernel
theorem d_Explorer_explore_125 : decode prog_4_method_2_code 125 = .ok (.goto (-98), 3) := by decide +kernel
theorem d_Explorer_explore_128 : decode prog_4_method_2_code 128 = .ok (.iconst 1, 1) := by decide +kernel
theorem d_Explorer_explore_129 : decode prog_4_method_2_code 129 = .ok (.ireturn, 1) := by decide +kernel
def zf_Explorer_explore_128 (F : Nat)   (σ : zs_S) : Option (Int32 × zs_S) :=
  some (1, σ)
def zf_Explorer_explore_104 (F : Nat) (k27 : Int32 → zs_S → Option (Int32 × zs_S)) (k81 : Int32 → Int32 → Int32 → zs_S → Option (Int32 × zs_S)) (x2 : Int32) (x3 : Int32) (x4 : Int32) (σ : zs_S) : Option (Int32 × zs_S) :=
  zq_v (x4 + 1) fun v27 =>
  k81 x2 x3 v27 σ
def zf_Explorer_explore_81 (F : Nat) (k27 : Int32 → zs_S → Option (Int32 × zs_S)) : Nat → Int32 → Int32 → Int32 → zs_S → Option (Int32 × zs_S)
  | 0, _, _, _, _ => none
  | n + 1, x2, x3, x4, σ =>
    if x3 ≤ x4 then (
      if (zs_i σ 10 11) = 0 then (
        zq_v (x2 + 1) fun v20 =>
        k27 v20 σ
      ) else (
        some (0, σ)
      )
    ) else (
      zq_c (zf_Explorer_isReady F x2 x4 σ) fun r22 σ21 =>
      if r22 = 0 then (
        zf_Explorer_explore_104 F k27 (zf_Explorer_explore_81 F k27 n) x2 x3 x4 σ21
      ) else (
        zq_d (zf_Explorer_takeStep F x2 x4 σ21) fun σ24 =>
        zf_Explorer_explore_104 F k27 (zf_Explorer_explore_81 F k27 n) x2 x3 x4 σ24
      )
    )
def zf_Explorer_explore_77 (F : Nat) (k27 : Int32 → zs_S → Option (Int32 × zs_S)) (x2 : Int32) (t0 : Int32) (σ : zs_S) : Option (Int32 × zs_S) :=
  zf_Explorer_explore_81 F k27 F x2 t0 0 σ
def zf_Explorer_explore_27 (F : Nat)  : Nat → Int32 → zs_S → Option (Int32 × zs_S)
  | 0, _, _ => none
  | n + 1, x2, σ =>
    if 800 ≤ x2 then (
      zf_Explorer_explore_128 F σ
    ) else (
      if (zs_i σ 10 9) ≤ x2 then (
        zf_Explorer_explore_128 F σ
      ) else (
        zq_d (zf_States_beginSteps F x2 σ) fun σ12 =>
        zq_c (zf_States_cell F x2 32 σ12) fun r16 σ15 =>
        if r16 = 0 then (
          zq_q (zs_r σ15 138 1) fun q18 =>
          zq_g (zq_k 0 q18 15) <|
          zf_Explorer_explore_77 F (zf_Explorer_explore_27 F n) x2 (zs_i σ15 q18 2) σ15
        ) else (
          zf_Explorer_explore_77 F (zf_Explorer_explore_27 F n) x2 0 σ15
        )
      )
    )
def zf_Explorer_explore (F : Nat) (x1 : Nat) (σ : zs_S) : Option (Int32 × zs_S) :=
  zq_g (zq_n x1) <|
  zq_v (zs_wr σ 138 1 x1) fun σ1 =>
  zq_d (zf_States_clear F σ1) fun σ3 =>
  zq_d (zf_Explorer_buildFirst F σ3) fun σ6 =>
  zq_d (zf_States_keep F ((-1)) ((-1)) σ6) fun σ9 =>
  zf_Explorer_explore_27 F F 0 σ9
set_option maxHeartbeats 4000000 in
set_option maxRecDepth 100000 in
theorem zc_Explorer_explore {l : Launch} {D : va_G} {cA : Nat → ClassId} {ad : Nat → Nat} {A : Nat → Prop} {F : Nat} {x1 : Nat} {σ : zs_S} {q : Int32 × zs_S} (hJ : zs_J ad) (hf : zf_Explorer_explore F x1 σ = some q) : Met l y_Explorer_explore (.code y_Explorer_explore prog_4_method_2_code 5 (some .boolean) :: zd_ww) { frames := 6, cells := 0, slots := 0, locals := 140 } (va_Pc [.ref (ad 138), .ref (ad x1)] (zs_U 0 D cA ad A σ)) (zs_Qi 0 D cA ad A q) 0 0 A := by
  refine Met.ofW (cc := prog_4_method_2_code) (maxL := 5) (ret := (some .boolean)) (by decide) rfl ?_
  intro p e s m args below meth c s₁ B hml hv
  obtain ⟨hargs, hP, hK, hD, hZ⟩ := hv
  have G : zs_G 0 p s m args c prog_4_method_2_code 5 "ScheduleCheck$Explorer" D cA ad A := ⟨⟨B.exec, B.bytes, hml, findClass_of_methodNamed B.named, fun w h => atoms_spec B.pre w (List.mem_cons_of_mem _ h)⟩, hK, hJ, hZ⟩
  have hw : zs_I 0 D cA ad A s σ s.heap [] := ⟨hP, hD, va_S.rf⟩
  have hx := G.1.1
  have hb := G.1.2.1
  have hown := G.1.2.2.2.1
  have hts := G.1.2.2.2.2
  have hr := B.returns
  have hlocks := B.notSynchronized
  have he : entryFrame m args 5 = F0 m 0 ((lg_sl [.ref (ad 138), .ref (ad x1)] ++ List.replicate (5 - (lg_sl [.ref (ad 138), .ref (ad x1)]).length) Slot.unset).toArray) [] := by rw [hargs]; exact lg_entry_eq m _ 5
  have hl := lv_entry [.ref (ad 138), .ref (ad x1)] (n := 5) (Nat.le_of_ble_eq_true rfl)
  rw [he]
  generalize (lg_sl [.ref (ad 138), .ref (ad x1)] ++ List.replicate (5 - (lg_sl [.ref (ad 138), .ref (ad x1)]).length) Slot.unset).toArray = ls at hl
  have hl : lv_has ls 5 [(0, .ref (ad 138)), (1, .ref (ad x1))] := hl
  obtain ⟨RR, hR⟩ : ∃ z, z = (headSpec (.code y_Explorer_explore prog_4_method_2_code 5 (some .boolean) :: zd_ww) { frames := 6, cells := 0, slots := 0, locals := 140 }).room := ⟨_, rfl⟩
  rw [← hR]
  obtain ⟨QQ, hQ⟩ : ∃ z, z = MQ below (zs_Qi 0 D cA ad A q) args s 0 0 A := ⟨_, rfl⟩
  rw [← hQ]
  have hR1 : 6 ≤ RR.frames := by rw [hR]; exact Nat.le_refl _
  have hR2 : 140 ≤ RR.locals := by rw [hR]; exact Nat.le_refl _
  generalize s.heap = H at hw ⊢
  generalize ([] : List Loc) = locs at hw ⊢
  have K128 : ∀ (σ : zs_S) (H : Heap) (locs : List Loc) (ls : Array Slot), zf_Explorer_explore_128 F σ = some q → zs_I 0 D cA ad A s σ H locs → lv_has ls 5 [] → W p l e RR s m args below meth c H locs 0 0 QQ (F0 m 128 ls []) := by
    intro   σ H locs ls hf hw hl
    unfold zf_Explorer_explore_128 at hf
    refine lv_iconst (v := 1) hx hb d_Explorer_explore_128 (by decide) ?_
    exact zr_zret G hw hr hlocks (by decide) hf hQ d_Explorer_explore_129
  have K104 : ∀ (k27 : Int32 → zs_S → Option (Int32 × zs_S)) (hk27 : ∀ (x2 : Int32) (σ : zs_S) (H : Heap) (locs : List Loc) (ls : Array Slot), k27 x2 σ = some q → zs_I 0 D cA ad A s σ H locs → lv_has ls 5 [(0, .ref (ad 138)), (2, .int x2)] → W p l e RR s m args below meth c H locs 0 0 QQ (F0 m 27 ls [])) (k81 : Int32 → Int32 → Int32 → zs_S → Option (Int32 × zs_S)) (hk81 : ∀ (x2 : Int32) (x3 : Int32) (x4 : Int32) (σ : zs_S) (H : Heap) (locs : List Loc) (ls : Array Slot), k81 x2 x3 x4 σ = some q → zs_I 0 D cA ad A s σ H locs → lv_has ls 5 [(0, .ref (ad 138)), (2, .int x2), (3, .int x3), (4, .int x4)] → W p l e RR s m args below meth c H locs 0 0 QQ (F0 m 81 ls [])) (x2 : Int32) (x3 : Int32) (x4 : Int32) (σ : zs_S) (H : Heap) (locs : List Loc) (ls : Array Slot), zf_Explorer_explore_104 F k27 k81 x2 x3 x4 σ = some q → zs_I 0 D cA ad A s σ H locs → lv_has ls 5 [(0, .ref (ad 138)), (2, .int x2), (3, .int x3), (4, .int x4)] → W p l e RR s m args below meth c H locs 0 0 QQ (F0 m 104 ls []) := by
    intro k27 hk27 k81 hk81 x2 x3 x4 σ H locs ls hf hw hl
    unfold zf_Explorer_explore_104 at hf
    obtain ⟨v27, e_v27, hf⟩ := zq_ss hf
    refine lv_iinc (v := v27) hx hb d_Explorer_explore_104 hl (k := 3) rfl (zq_inc (k := 1) (by decide) e_v27) (by decide) rfl (fun ls hl => ?_)
    have hl : lv_has ls 5 [(4, .int v27), (0, .ref (ad 138)), (2, .int x2), (3, .int x3)] := hl
    refine lv_goto hx hb d_Explorer_explore_107 (tgt := 81) rfl ?_
    exact hk81 x2 x3 v27 σ H locs ls hf hw (lv_sub hl [1, 2, 3, 0] rfl)
  have K81 : ∀ (k27 : Int32 → zs_S → Option (Int32 × zs_S)) (hk27 : ∀ (x2 : Int32) (σ : zs_S) (H : Heap) (locs : List Loc) (ls : Array Slot), k27 x2 σ = some q → zs_I 0 D cA ad A s σ H locs → lv_has ls 5 [(0, .ref (ad 138)), (2, .int x2)] → W p l e RR s m args below meth c H locs 0 0 QQ (F0 m 27 ls [])) (n : Nat) (x2 : Int32) (x3 : Int32) (x4 : Int32) (σ : zs_S) (H : Heap) (locs : List Loc) (ls : Array Slot), zf_Explorer_explore_81 F k27 n x2 x3 x4 σ = some q → zs_I 0 D cA ad A s σ H locs → lv_has ls 5 [(0, .ref (ad 138)), (2, .int x2), (3, .int x3), (4, .int x4)] → W p l e RR s m args below meth c H locs 0 0 QQ (F0 m 81 ls []) := by
    intro k27 hk27 n
    induction n with
    | zero => intro x2 x3 x4 σ H locs ls hf hw hl; exact nomatch (show (none : Option (Int32 × zs_S)) = some q from hf)
    | succ n ih =>
      intro x2 x3 x4 σ H locs ls hf hw hl
      rw [zf_Explorer_explore_81] at hf
      refine lv_iload hx hb d_Explorer_explore_81 (lv_at hl 3 rfl) ?_
      refine lv_iload_n hx hb d_Explorer_explore_83 rfl (lv_at hl 2 rfl) ?_
      refine lv_icmp_ge hx hb d_Explorer_explore_84 (tgt := 110) rfl (fun hc => ?_) (fun hc => ?_)
      · have hf := (if_pos hc).symm.trans hf
        refine lv_aload_n hx hb d_Explorer_explore_110 rfl (lv_at hl 0 rfl) ?_
        refine zr_get (ci := 4) G hw 138 0 zi_4 rfl rfl rfl (by decide) zm_143 (fun _ h => h) (v := .ref (ad 10)) rfl d_Explorer_explore_111 ?_
        refine zr_get (ci := 3) G hw 10 11 zi_3 rfl rfl rfl (by decide) zm_253 (fun _ h => h) (v := .int (zs_i σ 10 11)) rfl d_Explorer_explore_114 ?_
        refine lv_if_eq hx hb d_Explorer_explore_117 (tgt := 122) rfl (fun hc => ?_) (fun hc => ?_)
        · have hf := (if_pos hc).symm.trans hf
          obtain ⟨v20, e_v20, hf⟩ := zq_ss hf
          refine lv_iinc (v := v20) hx hb d_Explorer_explore_122 hl (k := 1) rfl (zq_inc (k := 1) (by decide) e_v20) (by decide) rfl (fun ls hl => ?_)
          have hl : lv_has ls 5 [(2, .int v20), (0, .ref (ad 138)), (3, .int x3), (4, .int x4)] := hl
          refine lv_goto hx hb d_Explorer_explore_125 (tgt := 27) rfl ?_
          exact hk27 v20 σ H locs ls hf hw (lv_sub hl [1, 0] rfl)
        · have hf := (if_neg hc).symm.trans hf
          refine lv_iconst (v := 0) hx hb d_Explorer_explore_120 (by decide) ?_
          exact zr_zret G hw hr hlocks (by decide) hf hQ d_Explorer_explore_121
      · have hf := (if_neg hc).symm.trans hf
        refine lv_aload_n hx hb d_Explorer_explore_87 rfl (lv_at hl 0 rfl) ?_
        refine lv_iload_n hx hb d_Explorer_explore_88 rfl (lv_at hl 1 rfl) ?_
        refine lv_iload hx hb d_Explorer_explore_89 (lv_at hl 3 rfl) ?_
        obtain ⟨r22, σ21, hc23, hf⟩ := zq_cs hf
        refine zr_ci hw (zr_runV (rest := []) (ci := 4) (o := 138) G hw [.int x2, .int x4] (zc_Explorer_isReady hJ hc23) (cwV 2 hts (zs_gV zm_226 zm_227 zm_228 zm_152 zm_225) rfl rfl rfl (by decide +kernel) ⟨Nat.le_trans (by decide) hR1, Nat.le_trans (by decide) hR2⟩) rfl rfl rfl hl.1 (Nat.le_of_ble_eq_true rfl) d_Explorer_explore_91 ⟨Nat.zero_le _, Nat.zero_le _⟩) (fun H locs hw => ?_)
        refine lv_if_eq hx hb d_Explorer_explore_94 (tgt := 104) rfl (fun hc => ?_) (fun hc => ?_)
        · have hf := (if_pos hc).symm.trans hf
          exact K104 k27 hk27 (zf_Explorer_explore_81 F k27 n) ih x2 x3 x4 σ21 H locs ls hf hw (lv_sub hl [0, 1, 2, 3] rfl)
        · have hf := (if_neg hc).symm.trans hf
          refine lv_aload_n hx hb d_Explorer_explore_97 rfl (lv_at hl 0 rfl) ?_
          refine lv_iload_n hx hb d_Explorer_explore_98 rfl (lv_at hl 1 rfl) ?_
          refine lv_iload hx hb d_Explorer_explore_99 (lv_at hl 3 rfl) ?_
          obtain ⟨σ24, hc26, hf⟩ := zq_ds hf
          refine zr_cv hw (zr_runV (rest := []) (ci := 4) (o := 138) G hw [.int x2, .int x4] (zc_Explorer_takeStep hJ hc26) (cwV 2 hts (zs_gV zm_255 zm_256 zm_257 zm_152 zm_254) rfl rfl rfl (by decide +kernel) ⟨Nat.le_trans (by decide) hR1, Nat.le_trans (by decide) hR2⟩) rfl rfl rfl hl.1 (Nat.le_of_ble_eq_true rfl) d_Explorer_explore_101 ⟨Nat.zero_le _, Nat.zero_le _⟩) (fun H locs hw => ?_)
          exact K104 k27 hk27 (zf_Explorer_explore_81 F k27 n) ih x2 x3 x4 σ24 H locs ls hf hw (lv_sub hl [0, 1, 2, 3] rfl)
  have K77 : ∀ (k27 : Int32 → zs_S → Option (Int32 × zs_S)) (hk27 : ∀ (x2 : Int32) (σ : zs_S) (H : Heap) (locs : List Loc) (ls : Array Slot), k27 x2 σ = some q → zs_I 0 D cA ad A s σ H locs → lv_has ls 5 [(0, .ref (ad 138)), (2, .int x2)] → W p l e RR s m args below meth c H locs 0 0 QQ (F0 m 27 ls [])) (x2 : Int32) (t0 : Int32) (σ : zs_S) (H : Heap) (locs : List Loc) (ls : Array Slot), zf_Explorer_explore_77 F k27 x2 t0 σ = some q → zs_I 0 D cA ad A s σ H locs → lv_has ls 5 [(0, .ref (ad 138)), (2, .int x2)] → W p l e RR s m args below meth c H locs 0 0 QQ (F0 m 77 ls [.int t0]) := by
    intro k27 hk27 x2 t0 σ H locs ls hf hw hl
    unfold zf_Explorer_explore_77 at hf
    refine lv_istore_n hx hb d_Explorer_explore_77 rfl hl (by decide) rfl (fun ls hl => ?_)
    have hl : lv_has ls 5 [(3, .int t0), (0, .ref (ad 138)), (2, .int x2)] := hl
    refine lv_iconst (v := 0) hx hb d_Explorer_explore_78 (by decide) ?_
    refine lv_istore hx hb d_Explorer_explore_79 hl (by decide) rfl (fun ls hl => ?_)
    have hl : lv_has ls 5 [(4, .int 0), (3, .int t0), (0, .ref (ad 138)), (2, .int x2)] := hl
    exact K81 k27 hk27 F x2 t0 0 σ H locs ls hf hw (lv_sub hl [2, 3, 1, 0] rfl)
  have K27 : ∀ (n : Nat) (x2 : Int32) (σ : zs_S) (H : Heap) (locs : List Loc) (ls : Array Slot), zf_Explorer_explore_27 F n x2 σ = some q → zs_I 0 D cA ad A s σ H locs → lv_has ls 5 [(0, .ref (ad 138)), (2, .int x2)] → W p l e RR s m args below meth c H locs 0 0 QQ (F0 m 27 ls []) := by
    intro  n
    induction n with
    | zero => intro x2 σ H locs ls hf hw hl; exact nomatch (show (none : Option (Int32 × zs_S)) = some q from hf)
    | succ n ih =>
      intro x2 σ H locs ls hf hw hl
      rw [zf_Explorer_explore_27] at hf
      refine lv_iload_n hx hb d_Explorer_explore_27 rfl (lv_at hl 1 rfl) ?_
      refine lv_sipush (v := 800) hx hb d_Explorer_explore_28 (by decide) ?_
      refine lv_icmp_ge hx hb d_Explorer_explore_31 (tgt := 128) rfl (fun hc => ?_) (fun hc => ?_)
      · have hf := (if_pos hc).symm.trans hf
        exact K128 σ H locs ls hf hw (lv_sub hl [] rfl)
      · have hf := (if_neg hc).symm.trans hf
        refine lv_iload_n hx hb d_Explorer_explore_34 rfl (lv_at hl 1 rfl) ?_
        refine lv_aload_n hx hb d_Explorer_explore_35 rfl (lv_at hl 0 rfl) ?_
        refine zr_get (ci := 4) G hw 138 0 zi_4 rfl rfl rfl (by decide) zm_143 (fun _ h => h) (v := .ref (ad 10)) rfl d_Explorer_explore_36 ?_
        refine zr_get (ci := 3) G hw 10 9 zi_3 rfl rfl rfl (by decide) zm_248 (fun _ h => h) (v := .int (zs_i σ 10 9)) rfl d_Explorer_explore_39 ?_
        refine lv_icmp_ge hx hb d_Explorer_explore_42 (tgt := 128) rfl (fun hc => ?_) (fun hc => ?_)
        · have hf := (if_pos hc).symm.trans hf
          exact K128 σ H locs ls hf hw (lv_sub hl [] rfl)
        · have hf := (if_neg hc).symm.trans hf
          refine lv_aload_n hx hb d_Explorer_explore_45 rfl (lv_at hl 0 rfl) ?_
          refine zr_get (ci := 4) G hw 138 0 zi_4 rfl rfl rfl (by decide) zm_143 (fun _ h => h) (v := .ref (ad 10)) rfl d_Explorer_explore_46 ?_
          refine lv_iload_n hx hb d_Explorer_explore_49 rfl (lv_at hl 1 rfl) ?_
          obtain ⟨σ12, hc14, hf⟩ := zq_ds hf
          refine zr_cv hw (zr_runV (rest := []) (ci := 3) (o := 10) G hw [.int x2] (zc_States_beginSteps hJ hc14) (cwV 1 hts (zs_gV zm_250 zm_251 zm_252 zm_39 zm_249) rfl rfl rfl (by decide +kernel) ⟨Nat.le_trans (by decide) hR1, Nat.le_trans (by decide) hR2⟩) rfl rfl rfl hl.1 (Nat.le_of_ble_eq_true rfl) d_Explorer_explore_50 ⟨Nat.zero_le _, Nat.zero_le _⟩) (fun H locs hw => ?_)
          refine lv_aload_n hx hb d_Explorer_explore_53 rfl (lv_at hl 0 rfl) ?_
          refine zr_get (ci := 4) G hw 138 0 zi_4 rfl rfl rfl (by decide) zm_143 (fun _ h => h) (v := .ref (ad 10)) rfl d_Explorer_explore_54 ?_
          refine lv_iload_n hx hb d_Explorer_explore_57 rfl (lv_at hl 1 rfl) ?_
          refine lv_bipush (v := 32) hx hb d_Explorer_explore_58 (by decide) ?_
          obtain ⟨r16, σ15, hc17, hf⟩ := zq_cs hf
          refine zr_ci hw (zr_runV (rest := []) (ci := 3) (o := 10) G hw [.int x2, .int 32] (zc_States_cell hJ hc17) (cwV 2 hts (zs_gV zm_145 zm_146 zm_147 zm_39 zm_144) rfl rfl rfl (by decide +kernel) ⟨Nat.le_trans (by decide) hR1, Nat.le_trans (by decide) hR2⟩) rfl rfl rfl hl.1 (Nat.le_of_ble_eq_true rfl) d_Explorer_explore_60 ⟨Nat.zero_le _, Nat.zero_le _⟩) (fun H locs hw => ?_)
          refine lv_if_ne hx hb d_Explorer_explore_63 (tgt := 76) rfl (fun hc => ?_) (fun hc => ?_)
          · have hf := (if_neg hc).symm.trans hf
            refine lv_iconst (v := 0) hx hb d_Explorer_explore_76 (by decide) ?_
            exact K77 (zf_Explorer_explore_27 F n) ih x2 0 σ15 H locs ls hf hw (lv_sub hl [0, 1] rfl)
          · have hf := (if_pos hc).symm.trans hf
            refine lv_aload_n hx hb d_Explorer_explore_66 rfl (lv_at hl 0 rfl) ?_
            obtain ⟨q18, e_q18, h_q18, hf⟩ := zq_qs hf
            refine zr_get (ci := 4) G hw 138 1 zi_4 rfl rfl rfl (by decide) zm_141 (fun _ h => h) (v := .ref (ad q18)) (zs_fr rfl e_q18 h_q18) d_Explorer_explore_67 ?_
            obtain ⟨hs19, hf⟩ := zq_gs hf
            have hs19 := zq_ks hs19
            refine zr_get (ci := 5) G hw q18 2 zi_5 hs19 rfl rfl (by decide) zm_172 (fun _ h => h) (v := .int (zs_i σ15 q18 2)) rfl d_Explorer_explore_70 ?_
            refine lv_goto hx hb d_Explorer_explore_73 (tgt := 77) rfl ?_
            exact K77 (zf_Explorer_explore_27 F n) ih x2 (zs_i σ15 q18 2) σ15 H locs ls hf hw (lv_sub hl [0, 1] rfl)
  unfold zf_Explorer_explore at hf
  refine lv_aload_n hx hb d_Explorer_explore_0 rfl (lv_at hl 0 rfl) ?_
  refine lv_aload_n hx hb d_Explorer_explore_1 rfl (lv_at hl 1 rfl) ?_
  obtain ⟨hn2, hf⟩ := zq_gs hf
  have hn2 := zq_ns hn2
  obtain ⟨σ1, e_σ1, hf⟩ := zq_ss hf
  refine zr_putr (ci := 4) G hw 138 1 zi_4 t_zd4 t_zd4_ok n_zd4 rfl rfl rfl (by decide) rfl zm_141 (fun _ h => h) rfl (x := x1) hn2 (t_zd4_ok 1 (by decide)) rfl rfl d_Explorer_explore_2 (fun H locs hw => ?_)
  rw [← e_σ1] at hw
  refine lv_aload_n hx hb d_Explorer_explore_5 rfl (lv_at hl 0 rfl) ?_
  refine zr_get (ci := 4) G hw 138 0 zi_4 rfl rfl rfl (by decide) zm_143 (fun _ h => h) (v := .ref (ad 10)) rfl d_Explorer_explore_6 ?_
  obtain ⟨σ3, hc5, hf⟩ := zq_ds hf
  refine zr_cv hw (zr_runV (rest := []) (ci := 3) (o := 10) G hw [] (zc_States_clear hJ hc5) (cwV 0 hts (zs_gV zm_241 zm_242 zm_243 zm_39 zm_240) rfl rfl rfl (by decide +kernel) ⟨Nat.le_trans (by decide) hR1, Nat.le_trans (by decide) hR2⟩) rfl rfl rfl hl.1 (Nat.le_of_ble_eq_true rfl) d_Explorer_explore_9 ⟨Nat.zero_le _, Nat.zero_le _⟩) (fun H locs hw => ?_)
  refine lv_aload_n hx hb d_Explorer_explore_12 rfl (lv_at hl 0 rfl) ?_
  obtain ⟨σ6, hc8, hf⟩ := zq_ds hf
  refine zr_cv hw (zr_runV (rest := []) (ci := 4) (o := 138) G hw [] (zc_Explorer_buildFirst hJ hc8) (cwV 0 hts (zs_gV zm_245 zm_246 zm_247 zm_152 zm_244) rfl rfl rfl (by decide +kernel) ⟨Nat.le_trans (by decide) hR1, Nat.le_trans (by decide) hR2⟩) rfl rfl rfl hl.1 (Nat.le_of_ble_eq_true rfl) d_Explorer_explore_13 ⟨Nat.zero_le _, Nat.zero_le _⟩) (fun H locs hw => ?_)
  refine lv_aload_n hx hb d_Explorer_explore_16 rfl (lv_at hl 0 rfl) ?_
  refine zr_get (ci := 4) G hw 138 0 zi_4 rfl rfl rfl (by decide) zm_143 (fun _ h => h) (v := .ref (ad 10)) rfl d_Explorer_explore_17 ?_
  refine lv_iconst (v := (-1)) hx hb d_Explorer_explore_20 (by decide) ?_
  refine lv_iconst (v := (-1)) hx hb d_Explorer_explore_21 (by decide) ?_
  obtain ⟨σ9, hc11, hf⟩ := zq_ds hf
  refine zr_cv hw (zr_runV (rest := []) (ci := 3) (o := 10) G hw [.int ((-1)), .int ((-1))] (zc_States_keep hJ hc11) (cwV 2 hts (zs_gV zm_169 zm_170 zm_171 zm_39 zm_168) rfl rfl rfl (by decide +kernel) ⟨Nat.le_trans (by decide) hR1, Nat.le_trans (by decide) hR2⟩) rfl rfl rfl hl.1 (Nat.le_of_ble_eq_true rfl) d_Explorer_explore_22 ⟨Nat.zero_le _, Nat.zero_le _⟩) (fun H locs hw => ?_)
  refine lv_iconst (v := 0) hx hb d_Explorer_explore_25 (by decide) ?_
  refine lv_istore_n hx hb d_Explorer_explore_26 rfl hl (by decide) rfl (fun ls hl => ?_)
  have hl : lv_has ls 5 [(2, .int 0), (0, .ref (ad 138)), (1, .ref (ad x1))] := hl
  exact K27 F 0 σ9 H locs ls hf hw (lv_sub hl [1, 0] rfl)
