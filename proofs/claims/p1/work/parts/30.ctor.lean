theorem zn2_0 : Cond.methodLink "ScheduleCheck" 3 ⟨"java/lang/Object","<init>","()V"⟩ ∈ zd_ww := zd_me 28 (by decide +kernel) (by decide +kernel)
theorem zn2_1 : Cond.instanceMethod ⟨"java/lang/Object","<init>","()V"⟩ ∈ zd_ww := zd_me 29 (by decide +kernel) (by decide +kernel)
theorem zn2_2 : Cond.code ⟨"java/lang/Object","<init>","()V"⟩ object_method_1_code 1 none ∈ zd_ww := zd_me 30 (by decide +kernel) (by decide +kernel)
theorem zn2_3 : Cond.arrayClass FieldType.byte ∈ zd_ww := zd_me 58 (by decide +kernel) (by decide +kernel)
theorem zn2_4 : Cond.fieldLink "ScheduleCheck" 9 "ScheduleCheck" "tape" "[B" ∈ zd_ww := zd_me 299 (by decide +kernel) (by decide +kernel)
theorem zn2_5 : Cond.classLink "ScheduleCheck" 13 "ScheduleCheck$Tokens" ∈ zd_ww := zd_me 31 (by decide +kernel) (by decide +kernel)
theorem zn2_6 : Cond.instantiable "ScheduleCheck$Tokens" 5 ∈ zd_ww := zd_me 32 (by decide +kernel) (by decide +kernel)
theorem zn2_7 : Cond.initialized "ScheduleCheck$Tokens" ∈ zd_ww := zd_me 2 (by decide +kernel) (by decide +kernel)
theorem zn2_8 : Cond.methodLink "ScheduleCheck$Tokens" 3 ⟨"java/lang/Object","<init>","()V"⟩ ∈ zd_ww := zd_me 36 (by decide +kernel) (by decide +kernel)
theorem zn2_9 : Cond.classLink "ScheduleCheck$Tokens" 9 "ScheduleCheck$Token" ∈ zd_ww := zd_me 37 (by decide +kernel) (by decide +kernel)
theorem zn2_10 : Cond.fieldLink "ScheduleCheck$Tokens" 11 "ScheduleCheck$Tokens" "kinds" "[LScheduleCheck$Token;" ∈ zd_ww := zd_me 39 (by decide +kernel) (by decide +kernel)
theorem zn2_11 : Cond.arrayClass FieldType.int ∈ zd_ww := zd_me 59 (by decide +kernel) (by decide +kernel)
theorem zn2_12 : Cond.fieldLink "ScheduleCheck$Tokens" 17 "ScheduleCheck$Tokens" "starts" "[I" ∈ zd_ww := zd_me 41 (by decide +kernel) (by decide +kernel)
theorem zn2_13 : Cond.arrayClass FieldType.long ∈ zd_ww := zd_me 60 (by decide +kernel) (by decide +kernel)
theorem zn2_14 : Cond.fieldLink "ScheduleCheck$Tokens" 21 "ScheduleCheck$Tokens" "contents" "[J" ∈ zd_ww := zd_me 43 (by decide +kernel) (by decide +kernel)
theorem zn2_15 : Cond.code ⟨"ScheduleCheck$Tokens","<init>","()V"⟩ prog_11_method_1_code 1 none ∈ zd_ww := zd_me 35 (by decide +kernel) (by decide +kernel)
theorem zn2_16 : Cond.methodLink "ScheduleCheck" 15 ⟨"ScheduleCheck$Tokens","<init>","()V"⟩ ∈ zd_ww := zd_me 33 (by decide +kernel) (by decide +kernel)
theorem zn2_17 : Cond.instanceMethod ⟨"ScheduleCheck$Tokens","<init>","()V"⟩ ∈ zd_ww := zd_me 34 (by decide +kernel) (by decide +kernel)
theorem zn2_18 : Cond.fieldLink "ScheduleCheck" 16 "ScheduleCheck" "tokens" "LScheduleCheck$Tokens;" ∈ zd_ww := zd_me 301 (by decide +kernel) (by decide +kernel)
theorem zn2_19 : Cond.classLink "ScheduleCheck" 20 "ScheduleCheck$Parser" ∈ zd_ww := zd_me 61 (by decide +kernel) (by decide +kernel)
theorem zn2_20 : Cond.instantiable "ScheduleCheck$Parser" 11 ∈ zd_ww := zd_me 62 (by decide +kernel) (by decide +kernel)
theorem zn2_21 : Cond.initialized "ScheduleCheck$Parser" ∈ zd_ww := zd_me 3 (by decide +kernel) (by decide +kernel)
theorem zn2_22 : Cond.methodLink "ScheduleCheck$Parser" 3 ⟨"java/lang/Object","<init>","()V"⟩ ∈ zd_ww := zd_me 66 (by decide +kernel) (by decide +kernel)
theorem zn2_23 : Cond.fieldLink "ScheduleCheck$Parser" 9 "ScheduleCheck$Parser" "names" "[J" ∈ zd_ww := zd_me 67 (by decide +kernel) (by decide +kernel)
theorem zn2_24 : Cond.fieldLink "ScheduleCheck$Parser" 15 "ScheduleCheck$Parser" "cells" "[I" ∈ zd_ww := zd_me 68 (by decide +kernel) (by decide +kernel)
theorem zn2_25 : Cond.code ⟨"ScheduleCheck$Parser","<init>","()V"⟩ prog_6_method_1_code 1 none ∈ zd_ww := zd_me 65 (by decide +kernel) (by decide +kernel)
theorem zn2_26 : Cond.methodLink "ScheduleCheck" 22 ⟨"ScheduleCheck$Parser","<init>","()V"⟩ ∈ zd_ww := zd_me 63 (by decide +kernel) (by decide +kernel)
theorem zn2_27 : Cond.instanceMethod ⟨"ScheduleCheck$Parser","<init>","()V"⟩ ∈ zd_ww := zd_me 64 (by decide +kernel) (by decide +kernel)
theorem zn2_28 : Cond.fieldLink "ScheduleCheck" 23 "ScheduleCheck" "parser" "LScheduleCheck$Parser;" ∈ zd_ww := zd_me 302 (by decide +kernel) (by decide +kernel)
theorem zn2_29 : Cond.classLink "ScheduleCheck" 27 "ScheduleCheck$States" ∈ zd_ww := zd_me 101 (by decide +kernel) (by decide +kernel)
theorem zn2_30 : Cond.instantiable "ScheduleCheck$States" 12 ∈ zd_ww := zd_me 102 (by decide +kernel) (by decide +kernel)
theorem zn2_31 : Cond.initialized "ScheduleCheck$States" ∈ zd_ww := zd_me 4 (by decide +kernel) (by decide +kernel)
theorem zn2_32 : Cond.methodLink "ScheduleCheck$States" 3 ⟨"java/lang/Object","<init>","()V"⟩ ∈ zd_ww := zd_me 106 (by decide +kernel) (by decide +kernel)
theorem zn2_33 : Cond.fieldLink "ScheduleCheck$States" 9 "ScheduleCheck$States" "cells" "[B" ∈ zd_ww := zd_me 107 (by decide +kernel) (by decide +kernel)
theorem zn2_34 : Cond.fieldLink "ScheduleCheck$States" 15 "ScheduleCheck$States" "depths" "[I" ∈ zd_ww := zd_me 109 (by decide +kernel) (by decide +kernel)
theorem zn2_35 : Cond.fieldLink "ScheduleCheck$States" 19 "ScheduleCheck$States" "parents" "[I" ∈ zd_ww := zd_me 111 (by decide +kernel) (by decide +kernel)
theorem zn2_36 : Cond.fieldLink "ScheduleCheck$States" 22 "ScheduleCheck$States" "movers" "[I" ∈ zd_ww := zd_me 113 (by decide +kernel) (by decide +kernel)
theorem zn2_37 : Cond.fieldLink "ScheduleCheck$States" 25 "ScheduleCheck$States" "steps" "[I" ∈ zd_ww := zd_me 115 (by decide +kernel) (by decide +kernel)
theorem zn2_38 : Cond.fieldLink "ScheduleCheck$States" 28 "ScheduleCheck$States" "stepsFrom" "[I" ∈ zd_ww := zd_me 117 (by decide +kernel) (by decide +kernel)
theorem zn2_39 : Cond.fieldLink "ScheduleCheck$States" 31 "ScheduleCheck$States" "hashes" "[I" ∈ zd_ww := zd_me 119 (by decide +kernel) (by decide +kernel)
theorem zn2_40 : Cond.fieldLink "ScheduleCheck$States" 34 "ScheduleCheck$States" "buckets" "[I" ∈ zd_ww := zd_me 120 (by decide +kernel) (by decide +kernel)
theorem zn2_41 : Cond.fieldLink "ScheduleCheck$States" 37 "ScheduleCheck$States" "chain" "[I" ∈ zd_ww := zd_me 121 (by decide +kernel) (by decide +kernel)
theorem zn2_42 : Cond.code ⟨"ScheduleCheck$States","<init>","()V"⟩ prog_9_method_1_code 1 none ∈ zd_ww := zd_me 105 (by decide +kernel) (by decide +kernel)
theorem zn2_43 : Cond.methodLink "ScheduleCheck" 29 ⟨"ScheduleCheck$States","<init>","()V"⟩ ∈ zd_ww := zd_me 103 (by decide +kernel) (by decide +kernel)
theorem zn2_44 : Cond.instanceMethod ⟨"ScheduleCheck$States","<init>","()V"⟩ ∈ zd_ww := zd_me 104 (by decide +kernel) (by decide +kernel)
theorem zn2_45 : Cond.fieldLink "ScheduleCheck" 30 "ScheduleCheck" "states" "LScheduleCheck$States;" ∈ zd_ww := zd_me 303 (by decide +kernel) (by decide +kernel)
theorem zn2_46 : Cond.classLink "ScheduleCheck" 34 "ScheduleCheck$Program" ∈ zd_ww := zd_me 153 (by decide +kernel) (by decide +kernel)
theorem zn2_47 : Cond.instantiable "ScheduleCheck$Program" 9 ∈ zd_ww := zd_me 154 (by decide +kernel) (by decide +kernel)
theorem zn2_48 : Cond.initialized "ScheduleCheck$Program" ∈ zd_ww := zd_me 5 (by decide +kernel) (by decide +kernel)
theorem zn2_49 : Cond.methodLink "ScheduleCheck$Program" 3 ⟨"java/lang/Object","<init>","()V"⟩ ∈ zd_ww := zd_me 158 (by decide +kernel) (by decide +kernel)
theorem zn2_50 : Cond.fieldLink "ScheduleCheck$Program" 9 "ScheduleCheck$Program" "firstValues" "[I" ∈ zd_ww := zd_me 252 (by decide +kernel) (by decide +kernel)
theorem zn2_51 : Cond.fieldLink "ScheduleCheck$Program" 15 "ScheduleCheck$Program" "locals" "[I" ∈ zd_ww := zd_me 255 (by decide +kernel) (by decide +kernel)
theorem zn2_52 : Cond.fieldLink "ScheduleCheck$Program" 18 "ScheduleCheck$Program" "entries" "[I" ∈ zd_ww := zd_me 258 (by decide +kernel) (by decide +kernel)
theorem zn2_53 : Cond.classLink "ScheduleCheck$Program" 21 "ScheduleCheck$Statement" ∈ zd_ww := zd_me 159 (by decide +kernel) (by decide +kernel)
theorem zn2_54 : Cond.fieldLink "ScheduleCheck$Program" 23 "ScheduleCheck$Program" "statements" "[LScheduleCheck$Statement;" ∈ zd_ww := zd_me 261 (by decide +kernel) (by decide +kernel)
theorem zn2_55 : Cond.instantiable "ScheduleCheck$Statement" 9 ∈ zd_ww := zd_me 161 (by decide +kernel) (by decide +kernel)
theorem zn2_56 : Cond.initialized "ScheduleCheck$Statement" ∈ zd_ww := zd_me 6 (by decide +kernel) (by decide +kernel)
theorem zn2_57 : Cond.methodLink "ScheduleCheck$Statement" 3 ⟨"java/lang/Object","<init>","()V"⟩ ∈ zd_ww := zd_me 165 (by decide +kernel) (by decide +kernel)
theorem zn2_58 : Cond.fieldLink "ScheduleCheck$Statement" 9 "ScheduleCheck$Kind" "STOP" "LScheduleCheck$Kind;" ∈ zd_ww := zd_me 166 (by decide +kernel) (by decide +kernel)
theorem zn2_59 : Cond.fieldLink "ScheduleCheck$Statement" 15 "ScheduleCheck$Statement" "kind" "LScheduleCheck$Kind;" ∈ zd_ww := zd_me 168 (by decide +kernel) (by decide +kernel)
theorem zn2_60 : Cond.code ⟨"ScheduleCheck$Statement","<init>","()V"⟩ prog_8_method_1_code 1 none ∈ zd_ww := zd_me 164 (by decide +kernel) (by decide +kernel)
theorem zn2_61 : Cond.methodLink "ScheduleCheck$Program" 27 ⟨"ScheduleCheck$Statement","<init>","()V"⟩ ∈ zd_ww := zd_me 162 (by decide +kernel) (by decide +kernel)
theorem zn2_62 : Cond.instanceMethod ⟨"ScheduleCheck$Statement","<init>","()V"⟩ ∈ zd_ww := zd_me 163 (by decide +kernel) (by decide +kernel)
theorem zn2_63 : Cond.classLink "ScheduleCheck$Program" 28 "ScheduleCheck$Code" ∈ zd_ww := zd_me 216 (by decide +kernel) (by decide +kernel)
theorem zn2_64 : Cond.instantiable "ScheduleCheck$Code" 4 ∈ zd_ww := zd_me 217 (by decide +kernel) (by decide +kernel)
theorem zn2_65 : Cond.initialized "ScheduleCheck$Code" ∈ zd_ww := zd_me 9 (by decide +kernel) (by decide +kernel)
theorem zn2_66 : Cond.methodLink "ScheduleCheck$Code" 3 ⟨"java/lang/Object","<init>","()V"⟩ ∈ zd_ww := zd_me 221 (by decide +kernel) (by decide +kernel)
theorem zn2_67 : Cond.classLink "ScheduleCheck$Code" 9 "ScheduleCheck$Token" ∈ zd_ww := zd_me 222 (by decide +kernel) (by decide +kernel)
theorem zn2_68 : Cond.fieldLink "ScheduleCheck$Code" 11 "ScheduleCheck$Code" "signs" "[LScheduleCheck$Token;" ∈ zd_ww := zd_me 223 (by decide +kernel) (by decide +kernel)
theorem zn2_69 : Cond.fieldLink "ScheduleCheck$Code" 17 "ScheduleCheck$Code" "operands" "[I" ∈ zd_ww := zd_me 224 (by decide +kernel) (by decide +kernel)
theorem zn2_70 : Cond.fieldLink "ScheduleCheck$Code" 21 "ScheduleCheck$Code" "stack" "[I" ∈ zd_ww := zd_me 225 (by decide +kernel) (by decide +kernel)
theorem zn2_71 : Cond.code ⟨"ScheduleCheck$Code","<init>","()V"⟩ prog_3_method_1_code 1 none ∈ zd_ww := zd_me 220 (by decide +kernel) (by decide +kernel)
theorem zn2_72 : Cond.methodLink "ScheduleCheck$Program" 30 ⟨"ScheduleCheck$Code","<init>","()V"⟩ ∈ zd_ww := zd_me 218 (by decide +kernel) (by decide +kernel)
theorem zn2_73 : Cond.instanceMethod ⟨"ScheduleCheck$Code","<init>","()V"⟩ ∈ zd_ww := zd_me 219 (by decide +kernel) (by decide +kernel)
theorem zn2_74 : Cond.fieldLink "ScheduleCheck$Program" 31 "ScheduleCheck$Program" "code" "LScheduleCheck$Code;" ∈ zd_ww := zd_me 264 (by decide +kernel) (by decide +kernel)
theorem zn2_75 : Cond.code ⟨"ScheduleCheck$Program","<init>","()V"⟩ prog_7_method_1_code 2 none ∈ zd_ww := zd_me 157 (by decide +kernel) (by decide +kernel)
theorem zn2_76 : Cond.methodLink "ScheduleCheck" 36 ⟨"ScheduleCheck$Program","<init>","()V"⟩ ∈ zd_ww := zd_me 155 (by decide +kernel) (by decide +kernel)
theorem zn2_77 : Cond.instanceMethod ⟨"ScheduleCheck$Program","<init>","()V"⟩ ∈ zd_ww := zd_me 156 (by decide +kernel) (by decide +kernel)
theorem zn2_78 : Cond.fieldLink "ScheduleCheck" 37 "ScheduleCheck" "program" "LScheduleCheck$Program;" ∈ zd_ww := zd_me 305 (by decide +kernel) (by decide +kernel)
theorem zn2_79 : Cond.fieldLink "ScheduleCheck" 41 "ScheduleCheck" "draft" "LScheduleCheck$Program;" ∈ zd_ww := zd_me 306 (by decide +kernel) (by decide +kernel)
theorem zn2_80 : Cond.classLink "ScheduleCheck" 44 "ScheduleCheck$Explorer" ∈ zd_ww := zd_me 286 (by decide +kernel) (by decide +kernel)
theorem zn2_81 : Cond.instantiable "ScheduleCheck$Explorer" 2 ∈ zd_ww := zd_me 287 (by decide +kernel) (by decide +kernel)
theorem zn2_82 : Cond.initialized "ScheduleCheck$Explorer" ∈ zd_ww := zd_me 10 (by decide +kernel) (by decide +kernel)
theorem zn2_83 : Cond.methodLink "ScheduleCheck$Explorer" 3 ⟨"java/lang/Object","<init>","()V"⟩ ∈ zd_ww := zd_me 291 (by decide +kernel) (by decide +kernel)
theorem zn2_84 : Cond.fieldLink "ScheduleCheck$Explorer" 9 "ScheduleCheck$Explorer" "states" "LScheduleCheck$States;" ∈ zd_ww := zd_me 292 (by decide +kernel) (by decide +kernel)
theorem zn2_85 : Cond.fieldLink "ScheduleCheck$Explorer" 15 "ScheduleCheck$Explorer" "program" "LScheduleCheck$Program;" ∈ zd_ww := zd_me 293 (by decide +kernel) (by decide +kernel)
theorem zn2_86 : Cond.code ⟨"ScheduleCheck$Explorer","<init>","(LScheduleCheck$States;LScheduleCheck$Program;)V"⟩ prog_4_method_1_code 3 none ∈ zd_ww := zd_me 290 (by decide +kernel) (by decide +kernel)
theorem zn2_87 : Cond.methodLink "ScheduleCheck" 46 ⟨"ScheduleCheck$Explorer","<init>","(LScheduleCheck$States;LScheduleCheck$Program;)V"⟩ ∈ zd_ww := zd_me 288 (by decide +kernel) (by decide +kernel)
theorem zn2_88 : Cond.instanceMethod ⟨"ScheduleCheck$Explorer","<init>","(LScheduleCheck$States;LScheduleCheck$Program;)V"⟩ ∈ zd_ww := zd_me 289 (by decide +kernel) (by decide +kernel)
theorem zn2_89 : Cond.fieldLink "ScheduleCheck" 49 "ScheduleCheck" "explorer" "LScheduleCheck$Explorer;" ∈ zd_ww := zd_me 304 (by decide +kernel) (by decide +kernel)
theorem zn2_90 : Cond.fieldLink "ScheduleCheck" 53 "ScheduleCheck" "endValues" "[B" ∈ zd_ww := zd_me 307 (by decide +kernel) (by decide +kernel)
theorem zh_0 (ad : Nat → Nat) (o : Nat) : ∀ k, k < 9 → defaultValue (t_zd0 k) = zs_f 2 ad (fun _ => 0) (fun _ => 0) (fun _ => 0) 0 o k := by
  intro k hk
  by_cases h0 : k = 0
  · subst h0; rfl
  by_cases h1 : k = 1
  · subst h1; rfl
  by_cases h2 : k = 2
  · subst h2; rfl
  by_cases h3 : k = 3
  · subst h3; rfl
  by_cases h4 : k = 4
  · subst h4; rfl
  by_cases h5 : k = 5
  · subst h5; rfl
  by_cases h6 : k = 6
  · subst h6; rfl
  by_cases h7 : k = 7
  · subst h7; rfl
  by_cases h8 : k = 8
  · subst h8; rfl
  exact absurd hk (by omega)
theorem zh_1 (ad : Nat → Nat) (o : Nat) : ∀ k, k < 5 → defaultValue (t_zd1 k) = zs_f 2 ad (fun _ => 0) (fun _ => 0) (fun _ => 0) 1 o k := by
  intro k hk
  by_cases h0 : k = 0
  · subst h0; rfl
  by_cases h1 : k = 1
  · subst h1; rfl
  by_cases h2 : k = 2
  · subst h2; rfl
  by_cases h3 : k = 3
  · subst h3; rfl
  by_cases h4 : k = 4
  · subst h4; rfl
  exact absurd hk (by omega)
theorem zh_2 (ad : Nat → Nat) (o : Nat) : ∀ k, k < 11 → defaultValue (t_zd2 k) = zs_f 2 ad (fun _ => 0) (fun _ => 0) (fun _ => 0) 2 o k := by
  intro k hk
  by_cases h0 : k = 0
  · subst h0; rfl
  by_cases h1 : k = 1
  · subst h1; rfl
  by_cases h2 : k = 2
  · subst h2; rfl
  by_cases h3 : k = 3
  · subst h3; rfl
  by_cases h4 : k = 4
  · subst h4; rfl
  by_cases h5 : k = 5
  · subst h5; rfl
  by_cases h6 : k = 6
  · subst h6; rfl
  by_cases h7 : k = 7
  · subst h7; rfl
  by_cases h8 : k = 8
  · subst h8; rfl
  by_cases h9 : k = 9
  · subst h9; rfl
  by_cases h10 : k = 10
  · subst h10; rfl
  exact absurd hk (by omega)
theorem zh_3 (ad : Nat → Nat) (o : Nat) : ∀ k, k < 12 → defaultValue (t_zd3 k) = zs_f 2 ad (fun _ => 0) (fun _ => 0) (fun _ => 0) 3 o k := by
  intro k hk
  by_cases h0 : k = 0
  · subst h0; rfl
  by_cases h1 : k = 1
  · subst h1; rfl
  by_cases h2 : k = 2
  · subst h2; rfl
  by_cases h3 : k = 3
  · subst h3; rfl
  by_cases h4 : k = 4
  · subst h4; rfl
  by_cases h5 : k = 5
  · subst h5; rfl
  by_cases h6 : k = 6
  · subst h6; rfl
  by_cases h7 : k = 7
  · subst h7; rfl
  by_cases h8 : k = 8
  · subst h8; rfl
  by_cases h9 : k = 9
  · subst h9; rfl
  by_cases h10 : k = 10
  · subst h10; rfl
  by_cases h11 : k = 11
  · subst h11; rfl
  exact absurd hk (by omega)
theorem zh_4 (ad : Nat → Nat) (o : Nat) : ∀ k, k < 2 → defaultValue (t_zd4 k) = zs_f 2 ad (fun _ => 0) (fun _ => 0) (fun _ => 0) 4 o k := by
  intro k hk
  by_cases h0 : k = 0
  · subst h0; rfl
  by_cases h1 : k = 1
  · subst h1; rfl
  exact absurd hk (by omega)
theorem zh_5 (ad : Nat → Nat) (o : Nat) : ∀ k, k < 9 → defaultValue (t_zd5 k) = zs_f 2 ad (fun _ => 0) (fun _ => 0) (fun _ => 0) 5 o k := by
  intro k hk
  by_cases h0 : k = 0
  · subst h0; rfl
  by_cases h1 : k = 1
  · subst h1; rfl
  by_cases h2 : k = 2
  · subst h2; rfl
  by_cases h3 : k = 3
  · subst h3; rfl
  by_cases h4 : k = 4
  · subst h4; rfl
  by_cases h5 : k = 5
  · subst h5; rfl
  by_cases h6 : k = 6
  · subst h6; rfl
  by_cases h7 : k = 7
  · subst h7; rfl
  by_cases h8 : k = 8
  · subst h8; rfl
  exact absurd hk (by omega)
theorem zh_6 (ad : Nat → Nat) (o : Nat) : ∀ k, k < 9 → defaultValue (t_zd6 k) = zs_f 2 ad (fun _ => 0) (fun _ => 0) (fun _ => 0) 6 o k := by
  intro k hk
  by_cases h0 : k = 0
  · subst h0; rfl
  by_cases h1 : k = 1
  · subst h1; rfl
  by_cases h2 : k = 2
  · subst h2; rfl
  by_cases h3 : k = 3
  · subst h3; rfl
  by_cases h4 : k = 4
  · subst h4; rfl
  by_cases h5 : k = 5
  · subst h5; rfl
  by_cases h6 : k = 6
  · subst h6; rfl
  by_cases h7 : k = 7
  · subst h7; rfl
  by_cases h8 : k = 8
  · subst h8; rfl
  exact absurd hk (by omega)
theorem zh_7 (ad : Nat → Nat) (o : Nat) : ∀ k, k < 4 → defaultValue (t_zd7 k) = zs_f 2 ad (fun _ => 0) (fun _ => 0) (fun _ => 0) 7 o k := by
  intro k hk
  by_cases h0 : k = 0
  · subst h0; rfl
  by_cases h1 : k = 1
  · subst h1; rfl
  by_cases h2 : k = 2
  · subst h2; rfl
  by_cases h3 : k = 3
  · subst h3; rfl
  exact absurd hk (by omega)
def y_Tokens_init : MethodName := ⟨"ScheduleCheck$Tokens","<init>","()V"⟩
theorem d_Tokens_init_0 : decode prog_11_method_1_code 0 = .ok (.aload_n 0, 1) := by decide +kernel
theorem d_Tokens_init_1 : decode prog_11_method_1_code 1 = .ok (.invokespecial 3, 3) := by decide +kernel
theorem d_Tokens_init_4 : decode prog_11_method_1_code 4 = .ok (.aload_n 0, 1) := by decide +kernel
theorem d_Tokens_init_5 : decode prog_11_method_1_code 5 = .ok (.sipush 1601, 3) := by decide +kernel
theorem d_Tokens_init_8 : decode prog_11_method_1_code 8 = .ok (.anewarray 9, 3) := by decide +kernel
theorem d_Tokens_init_11 : decode prog_11_method_1_code 11 = .ok (.putfield 11, 3) := by decide +kernel
theorem d_Tokens_init_14 : decode prog_11_method_1_code 14 = .ok (.aload_n 0, 1) := by decide +kernel
theorem d_Tokens_init_15 : decode prog_11_method_1_code 15 = .ok (.sipush 1601, 3) := by decide +kernel
theorem d_Tokens_init_18 : decode prog_11_method_1_code 18 = .ok (.newarray .int, 2) := by decide +kernel
theorem d_Tokens_init_20 : decode prog_11_method_1_code 20 = .ok (.putfield 17, 3) := by decide +kernel
theorem d_Tokens_init_23 : decode prog_11_method_1_code 23 = .ok (.aload_n 0, 1) := by decide +kernel
theorem d_Tokens_init_24 : decode prog_11_method_1_code 24 = .ok (.sipush 1601, 3) := by decide +kernel
theorem d_Tokens_init_27 : decode prog_11_method_1_code 27 = .ok (.newarray .long, 2) := by decide +kernel
theorem d_Tokens_init_29 : decode prog_11_method_1_code 29 = .ok (.putfield 21, 3) := by decide +kernel
theorem d_Tokens_init_32 : decode prog_11_method_1_code 32 = .ok (.return_, 1) := by decide +kernel
def zk_f_Tokens_init_3 (σ : zs_S) : zs_S := (zs_wr (zs_wr (zs_wr σ 3 0 4) 3 1 5) 3 2 6)
set_option maxHeartbeats 8000000 in
set_option maxRecDepth 100000 in
theorem zk_Tokens_init_3 {l : Launch} {D : va_G} {cA : Nat → ClassId} {ad : Nat → Nat} {A : Nat → Prop} {b : Nat} {σ : zs_S} (hJ : zs_J ad) (had : ∀ o, 1 ≤ o → o ≤ zd_M 2 → ad o = b + (o - 1)) (hA : ∀ q, b ≤ q → A q) : Met l y_Tokens_init (.code y_Tokens_init prog_11_method_1_code 1 none :: zd_ww) { frames := 1, cells := 3, slots := 4803, locals := 30 } (va_Pc [.ref (ad 3)] (zk_U 2 D cA ad A b 3 σ)) (zk_Q 2 D cA ad A b 6 (zk_f_Tokens_init_3 σ)) 3 4803 A := by
  refine Met.ofW (cc := prog_11_method_1_code) (maxL := 1) (ret := none) (by decide) rfl ?_
  intro p e s m args below meth c s₁ B hml hv
  obtain ⟨hargs, hP, hK, hD, hZ, hz, hd, hO⟩ := hv
  have G : zk_G 2 p s m args c prog_11_method_1_code 1 "ScheduleCheck$Tokens" D cA ad A b := ⟨⟨B.exec, B.bytes, hml, findClass_of_methodNamed B.named, fun w h => atoms_spec B.pre w (List.mem_cons_of_mem _ h)⟩, hK, hJ, hZ, had, hA, hO⟩
  have hw : zk_I 2 D cA ad A s b 3 σ s.heap [] := ⟨hP, hD, va_S.rf, hz, hd⟩
  have hx := G.1.1
  have hb := G.1.2.1
  have hown := G.1.2.2.2.1
  have hts := G.1.2.2.2.2
  have hr := B.returns
  have hlocks := B.notSynchronized
  have hin : meth.name = "<init>" := (name_of_methodNamed B.named B.method).1
  have he : entryFrame m args 1 = F0 m 0 ((lg_sl [.ref (ad 3)] ++ List.replicate (1 - (lg_sl [.ref (ad 3)]).length) Slot.unset).toArray) [] := by rw [hargs]; exact lg_entry_eq m _ 1
  have hl := lv_entry [.ref (ad 3)] (n := 1) (Nat.le_of_ble_eq_true rfl)
  rw [he]
  generalize (lg_sl [.ref (ad 3)] ++ List.replicate (1 - (lg_sl [.ref (ad 3)]).length) Slot.unset).toArray = ls at hl
  have hl : lv_has ls 1 [(0, .ref (ad 3))] := hl
  obtain ⟨RR, hR⟩ : ∃ z, z = (headSpec (.code y_Tokens_init prog_11_method_1_code 1 none :: zd_ww) { frames := 1, cells := 3, slots := 4803, locals := 30 }).room := ⟨_, rfl⟩
  rw [← hR]
  obtain ⟨QQ, hQ⟩ : ∃ z, z = MQ below (zk_Q 2 D cA ad A b 6 (zk_f_Tokens_init_3 σ)) args s 3 4803 A := ⟨_, rfl⟩
  rw [← hQ]
  have hR1 : 1 ≤ RR.frames := by rw [hR]; exact Nat.le_refl _
  have hR2 : 30 ≤ RR.locals := by rw [hR]; exact Nat.le_refl _
  have hR3 : 3 ≤ RR.cells := by rw [hR]; exact Nat.le_refl _
  have hR4 : 4803 ≤ RR.slots := by rw [hR]; exact Nat.le_refl _
  generalize s.heap = H at hw ⊢
  generalize ([] : List Loc) = locs at hw ⊢
  refine lv_aload_n hx hb d_Tokens_init_0 rfl (lv_at hl 0 rfl) ?_
  refine W.objInit hx hb hown (hts _ zn2_8) (hts _ zn2_1) (hts _ zn2_2) rfl (by rw [hml]; exact hl.1) rfl d_Tokens_init_1 (Nat.le_trans (by decide) hR1) (Nat.le_trans (Nat.le_of_ble_eq_true rfl) hR2) ?_
  refine W.eq (g2 := F0 m 4 ls []) rfl ?_
  refine lv_aload_n hx hb d_Tokens_init_4 rfl (lv_at hl 0 rfl) ?_
  refine lv_sipush (v := 1601) hx hb d_Tokens_init_5 (by decide) ?_
  refine zk_newq (t := 4) (N := 1601) (n := 1601) G hw zn2_9 ((G.2.2.2.2.2.2.1 rfl).1) rfl (by decide) rfl (by decide) (by decide) (by decide) (by decide) (Nat.le_trans (by decide) hR3) (Nat.le_trans (by decide) hR4) d_Tokens_init_8 (fun H hw => ?_)
  refine W.widen (k := 1) (n := 1601) (by decide) (by decide) ?_
  refine zk_putF (ci := 1) G hw 3 0 (by decide) (by decide) zi_1 t_zd1 t_zd1_ok n_zd1 rfl rfl rfl (by decide) rfl zn2_10 (fun _ h => h) rfl hin rfl (x := 4) (by decide) (t_zd1_ok 0 (by decide)) rfl rfl d_Tokens_init_11 (fun H locs hw => ?_)
  refine lv_aload_n hx hb d_Tokens_init_14 rfl (lv_at hl 0 rfl) ?_
  refine lv_sipush (v := 1601) hx hb d_Tokens_init_15 (by decide) ?_
  refine zk_newa (atype := .int) (t := 0) (N := 1601) (n := 1601) G hw zn2_11 rfl (by decide) rfl (by decide) (by decide) (by decide) (by decide) (Nat.le_trans (by decide) hR3) (Nat.le_trans (by decide) hR4) d_Tokens_init_18 (fun H hw => ?_)
  refine W.widen (k := 2) (n := 3202) (by decide) (by decide) ?_
  refine zk_putF (ci := 1) G hw 3 1 (by decide) (by decide) zi_1 t_zd1 t_zd1_ok n_zd1 rfl rfl rfl (by decide) rfl zn2_12 (fun _ h => h) rfl hin rfl (x := 5) (by decide) (t_zd1_ok 1 (by decide)) rfl rfl d_Tokens_init_20 (fun H locs hw => ?_)
  refine lv_aload_n hx hb d_Tokens_init_23 rfl (lv_at hl 0 rfl) ?_
  refine lv_sipush (v := 1601) hx hb d_Tokens_init_24 (by decide) ?_
  refine zk_newa (atype := .long) (t := 3) (N := 1601) (n := 1601) G hw zn2_13 rfl (by decide) rfl (by decide) (by decide) (by decide) (by decide) (Nat.le_trans (by decide) hR3) (Nat.le_trans (by decide) hR4) d_Tokens_init_27 (fun H hw => ?_)
  refine W.widen (k := 3) (n := 4803) (by decide) (by decide) ?_
  refine zk_putF (ci := 1) G hw 3 2 (by decide) (by decide) zi_1 t_zd1 t_zd1_ok n_zd1 rfl rfl rfl (by decide) rfl zn2_14 (fun _ h => h) rfl hin rfl (x := 6) (by decide) (t_zd1_ok 2 (by decide)) rfl rfl d_Tokens_init_29 (fun H locs hw => ?_)
  exact zk_vret G hw hr hlocks hQ d_Tokens_init_32
def y_Parser_init : MethodName := ⟨"ScheduleCheck$Parser","<init>","()V"⟩
theorem d_Parser_init_0 : decode prog_6_method_1_code 0 = .ok (.aload_n 0, 1) := by decide +kernel
theorem d_Parser_init_1 : decode prog_6_method_1_code 1 = .ok (.invokespecial 3, 3) := by decide +kernel
theorem d_Parser_init_4 : decode prog_6_method_1_code 4 = .ok (.aload_n 0, 1) := by decide +kernel
theorem d_Parser_init_5 : decode prog_6_method_1_code 5 = .ok (.bipush 15, 2) := by decide +kernel
theorem d_Parser_init_7 : decode prog_6_method_1_code 7 = .ok (.newarray .long, 2) := by decide +kernel
theorem d_Parser_init_9 : decode prog_6_method_1_code 9 = .ok (.putfield 9, 3) := by decide +kernel
theorem d_Parser_init_12 : decode prog_6_method_1_code 12 = .ok (.aload_n 0, 1) := by decide +kernel
theorem d_Parser_init_13 : decode prog_6_method_1_code 13 = .ok (.bipush 15, 2) := by decide +kernel
theorem d_Parser_init_15 : decode prog_6_method_1_code 15 = .ok (.newarray .int, 2) := by decide +kernel
theorem d_Parser_init_17 : decode prog_6_method_1_code 17 = .ok (.putfield 15, 3) := by decide +kernel
theorem d_Parser_init_20 : decode prog_6_method_1_code 20 = .ok (.return_, 1) := by decide +kernel
def zk_f_Parser_init_7 (σ : zs_S) : zs_S := (zs_wr (zs_wr σ 7 0 8) 7 1 9)
set_option maxHeartbeats 8000000 in
set_option maxRecDepth 100000 in
theorem zk_Parser_init_7 {l : Launch} {D : va_G} {cA : Nat → ClassId} {ad : Nat → Nat} {A : Nat → Prop} {b : Nat} {σ : zs_S} (hJ : zs_J ad) (had : ∀ o, 1 ≤ o → o ≤ zd_M 2 → ad o = b + (o - 1)) (hA : ∀ q, b ≤ q → A q) : Met l y_Parser_init (.code y_Parser_init prog_6_method_1_code 1 none :: zd_ww) { frames := 1, cells := 2, slots := 30, locals := 30 } (va_Pc [.ref (ad 7)] (zk_U 2 D cA ad A b 7 σ)) (zk_Q 2 D cA ad A b 9 (zk_f_Parser_init_7 σ)) 2 30 A := by
  refine Met.ofW (cc := prog_6_method_1_code) (maxL := 1) (ret := none) (by decide) rfl ?_
  intro p e s m args below meth c s₁ B hml hv
  obtain ⟨hargs, hP, hK, hD, hZ, hz, hd, hO⟩ := hv
  have G : zk_G 2 p s m args c prog_6_method_1_code 1 "ScheduleCheck$Parser" D cA ad A b := ⟨⟨B.exec, B.bytes, hml, findClass_of_methodNamed B.named, fun w h => atoms_spec B.pre w (List.mem_cons_of_mem _ h)⟩, hK, hJ, hZ, had, hA, hO⟩
  have hw : zk_I 2 D cA ad A s b 7 σ s.heap [] := ⟨hP, hD, va_S.rf, hz, hd⟩
  have hx := G.1.1
  have hb := G.1.2.1
  have hown := G.1.2.2.2.1
  have hts := G.1.2.2.2.2
  have hr := B.returns
  have hlocks := B.notSynchronized
  have hin : meth.name = "<init>" := (name_of_methodNamed B.named B.method).1
  have he : entryFrame m args 1 = F0 m 0 ((lg_sl [.ref (ad 7)] ++ List.replicate (1 - (lg_sl [.ref (ad 7)]).length) Slot.unset).toArray) [] := by rw [hargs]; exact lg_entry_eq m _ 1
  have hl := lv_entry [.ref (ad 7)] (n := 1) (Nat.le_of_ble_eq_true rfl)
  rw [he]
  generalize (lg_sl [.ref (ad 7)] ++ List.replicate (1 - (lg_sl [.ref (ad 7)]).length) Slot.unset).toArray = ls at hl
  have hl : lv_has ls 1 [(0, .ref (ad 7))] := hl
  obtain ⟨RR, hR⟩ : ∃ z, z = (headSpec (.code y_Parser_init prog_6_method_1_code 1 none :: zd_ww) { frames := 1, cells := 2, slots := 30, locals := 30 }).room := ⟨_, rfl⟩
  rw [← hR]
  obtain ⟨QQ, hQ⟩ : ∃ z, z = MQ below (zk_Q 2 D cA ad A b 9 (zk_f_Parser_init_7 σ)) args s 2 30 A := ⟨_, rfl⟩
  rw [← hQ]
  have hR1 : 1 ≤ RR.frames := by rw [hR]; exact Nat.le_refl _
  have hR2 : 30 ≤ RR.locals := by rw [hR]; exact Nat.le_refl _
  have hR3 : 2 ≤ RR.cells := by rw [hR]; exact Nat.le_refl _
  have hR4 : 30 ≤ RR.slots := by rw [hR]; exact Nat.le_refl _
  generalize s.heap = H at hw ⊢
  generalize ([] : List Loc) = locs at hw ⊢
  refine lv_aload_n hx hb d_Parser_init_0 rfl (lv_at hl 0 rfl) ?_
  refine W.objInit hx hb hown (hts _ zn2_22) (hts _ zn2_1) (hts _ zn2_2) rfl (by rw [hml]; exact hl.1) rfl d_Parser_init_1 (Nat.le_trans (by decide) hR1) (Nat.le_trans (Nat.le_of_ble_eq_true rfl) hR2) ?_
  refine W.eq (g2 := F0 m 4 ls []) rfl ?_
  refine lv_aload_n hx hb d_Parser_init_4 rfl (lv_at hl 0 rfl) ?_
  refine lv_bipush (v := 15) hx hb d_Parser_init_5 (by decide) ?_
  refine zk_newa (atype := .long) (t := 3) (N := 15) (n := 15) G hw zn2_13 rfl (by decide) rfl (by decide) (by decide) (by decide) (by decide) (Nat.le_trans (by decide) hR3) (Nat.le_trans (by decide) hR4) d_Parser_init_7 (fun H hw => ?_)
  refine W.widen (k := 1) (n := 15) (by decide) (by decide) ?_
  refine zk_putF (ci := 2) G hw 7 0 (by decide) (by decide) zi_2 t_zd2 t_zd2_ok n_zd2 rfl rfl rfl (by decide) rfl zn2_23 (fun _ h => h) rfl hin rfl (x := 8) (by decide) (t_zd2_ok 0 (by decide)) rfl rfl d_Parser_init_9 (fun H locs hw => ?_)
  refine lv_aload_n hx hb d_Parser_init_12 rfl (lv_at hl 0 rfl) ?_
  refine lv_bipush (v := 15) hx hb d_Parser_init_13 (by decide) ?_
  refine zk_newa (atype := .int) (t := 0) (N := 15) (n := 15) G hw zn2_11 rfl (by decide) rfl (by decide) (by decide) (by decide) (by decide) (Nat.le_trans (by decide) hR3) (Nat.le_trans (by decide) hR4) d_Parser_init_15 (fun H hw => ?_)
  refine W.widen (k := 2) (n := 30) (by decide) (by decide) ?_
  refine zk_putF (ci := 2) G hw 7 1 (by decide) (by decide) zi_2 t_zd2 t_zd2_ok n_zd2 rfl rfl rfl (by decide) rfl zn2_24 (fun _ h => h) rfl hin rfl (x := 9) (by decide) (t_zd2_ok 1 (by decide)) rfl rfl d_Parser_init_17 (fun H locs hw => ?_)
  exact zk_vret G hw hr hlocks hQ d_Parser_init_20
def y_States_init : MethodName := ⟨"ScheduleCheck$States","<init>","()V"⟩
theorem d_States_init_0 : decode prog_9_method_1_code 0 = .ok (.aload_n 0, 1) := by decide +kernel
theorem d_States_init_1 : decode prog_9_method_1_code 1 = .ok (.invokespecial 3, 3) := by decide +kernel
theorem d_States_init_4 : decode prog_9_method_1_code 4 = .ok (.aload_n 0, 1) := by decide +kernel
theorem d_States_init_5 : decode prog_9_method_1_code 5 = .ok (.sipush 27234, 3) := by decide +kernel
theorem d_States_init_8 : decode prog_9_method_1_code 8 = .ok (.newarray .byte, 2) := by decide +kernel
theorem d_States_init_10 : decode prog_9_method_1_code 10 = .ok (.putfield 9, 3) := by decide +kernel
theorem d_States_init_13 : decode prog_9_method_1_code 13 = .ok (.aload_n 0, 1) := by decide +kernel
theorem d_States_init_14 : decode prog_9_method_1_code 14 = .ok (.sipush 800, 3) := by decide +kernel
theorem d_States_init_17 : decode prog_9_method_1_code 17 = .ok (.newarray .int, 2) := by decide +kernel
theorem d_States_init_19 : decode prog_9_method_1_code 19 = .ok (.putfield 15, 3) := by decide +kernel
theorem d_States_init_22 : decode prog_9_method_1_code 22 = .ok (.aload_n 0, 1) := by decide +kernel
theorem d_States_init_23 : decode prog_9_method_1_code 23 = .ok (.sipush 800, 3) := by decide +kernel
theorem d_States_init_26 : decode prog_9_method_1_code 26 = .ok (.newarray .int, 2) := by decide +kernel
theorem d_States_init_28 : decode prog_9_method_1_code 28 = .ok (.putfield 19, 3) := by decide +kernel
theorem d_States_init_31 : decode prog_9_method_1_code 31 = .ok (.aload_n 0, 1) := by decide +kernel
theorem d_States_init_32 : decode prog_9_method_1_code 32 = .ok (.sipush 800, 3) := by decide +kernel
theorem d_States_init_35 : decode prog_9_method_1_code 35 = .ok (.newarray .int, 2) := by decide +kernel
theorem d_States_init_37 : decode prog_9_method_1_code 37 = .ok (.putfield 22, 3) := by decide +kernel
theorem d_States_init_40 : decode prog_9_method_1_code 40 = .ok (.aload_n 0, 1) := by decide +kernel
theorem d_States_init_41 : decode prog_9_method_1_code 41 = .ok (.sipush 3200, 3) := by decide +kernel
theorem d_States_init_44 : decode prog_9_method_1_code 44 = .ok (.newarray .int, 2) := by decide +kernel
theorem d_States_init_46 : decode prog_9_method_1_code 46 = .ok (.putfield 25, 3) := by decide +kernel
theorem d_States_init_49 : decode prog_9_method_1_code 49 = .ok (.aload_n 0, 1) := by decide +kernel
theorem d_States_init_50 : decode prog_9_method_1_code 50 = .ok (.sipush 801, 3) := by decide +kernel
theorem d_States_init_53 : decode prog_9_method_1_code 53 = .ok (.newarray .int, 2) := by decide +kernel
theorem d_States_init_55 : decode prog_9_method_1_code 55 = .ok (.putfield 28, 3) := by decide +kernel
theorem d_States_init_58 : decode prog_9_method_1_code 58 = .ok (.aload_n 0, 1) := by decide +kernel
theorem d_States_init_59 : decode prog_9_method_1_code 59 = .ok (.sipush 800, 3) := by decide +kernel
theorem d_States_init_62 : decode prog_9_method_1_code 62 = .ok (.newarray .int, 2) := by decide +kernel
theorem d_States_init_64 : decode prog_9_method_1_code 64 = .ok (.putfield 31, 3) := by decide +kernel
theorem d_States_init_67 : decode prog_9_method_1_code 67 = .ok (.aload_n 0, 1) := by decide +kernel
theorem d_States_init_68 : decode prog_9_method_1_code 68 = .ok (.sipush 1024, 3) := by decide +kernel
theorem d_States_init_71 : decode prog_9_method_1_code 71 = .ok (.newarray .int, 2) := by decide +kernel
theorem d_States_init_73 : decode prog_9_method_1_code 73 = .ok (.putfield 34, 3) := by decide +kernel
theorem d_States_init_76 : decode prog_9_method_1_code 76 = .ok (.aload_n 0, 1) := by decide +kernel
theorem d_States_init_77 : decode prog_9_method_1_code 77 = .ok (.sipush 800, 3) := by decide +kernel
theorem d_States_init_80 : decode prog_9_method_1_code 80 = .ok (.newarray .int, 2) := by decide +kernel
theorem d_States_init_82 : decode prog_9_method_1_code 82 = .ok (.putfield 37, 3) := by decide +kernel
theorem d_States_init_85 : decode prog_9_method_1_code 85 = .ok (.return_, 1) := by decide +kernel
def zk_f_States_init_10 (σ : zs_S) : zs_S := (zs_wr (zs_wr (zs_wr (zs_wr (zs_wr (zs_wr (zs_wr (zs_wr (zs_wr σ 10 0 11) 10 1 12) 10 2 13) 10 3 14) 10 4 15) 10 5 16) 10 6 17) 10 7 18) 10 8 19)
set_option maxHeartbeats 8000000 in
set_option maxRecDepth 100000 in
theorem zk_States_init_10 {l : Launch} {D : va_G} {cA : Nat → ClassId} {ad : Nat → Nat} {A : Nat → Prop} {b : Nat} {σ : zs_S} (hJ : zs_J ad) (had : ∀ o, 1 ≤ o → o ≤ zd_M 2 → ad o = b + (o - 1)) (hA : ∀ q, b ≤ q → A q) : Met l y_States_init (.code y_States_init prog_9_method_1_code 1 none :: zd_ww) { frames := 1, cells := 9, slots := 36259, locals := 30 } (va_Pc [.ref (ad 10)] (zk_U 2 D cA ad A b 10 σ)) (zk_Q 2 D cA ad A b 19 (zk_f_States_init_10 σ)) 9 36259 A := by
  refine Met.ofW (cc := prog_9_method_1_code) (maxL := 1) (ret := none) (by decide) rfl ?_
  intro p e s m args below meth c s₁ B hml hv
  obtain ⟨hargs, hP, hK, hD, hZ, hz, hd, hO⟩ := hv
  have G : zk_G 2 p s m args c prog_9_method_1_code 1 "ScheduleCheck$States" D cA ad A b := ⟨⟨B.exec, B.bytes, hml, findClass_of_methodNamed B.named, fun w h => atoms_spec B.pre w (List.mem_cons_of_mem _ h)⟩, hK, hJ, hZ, had, hA, hO⟩
  have hw : zk_I 2 D cA ad A s b 10 σ s.heap [] := ⟨hP, hD, va_S.rf, hz, hd⟩
  have hx := G.1.1
  have hb := G.1.2.1
  have hown := G.1.2.2.2.1
  have hts := G.1.2.2.2.2
  have hr := B.returns
  have hlocks := B.notSynchronized
  have hin : meth.name = "<init>" := (name_of_methodNamed B.named B.method).1
  have he : entryFrame m args 1 = F0 m 0 ((lg_sl [.ref (ad 10)] ++ List.replicate (1 - (lg_sl [.ref (ad 10)]).length) Slot.unset).toArray) [] := by rw [hargs]; exact lg_entry_eq m _ 1
  have hl := lv_entry [.ref (ad 10)] (n := 1) (Nat.le_of_ble_eq_true rfl)
  rw [he]
  generalize (lg_sl [.ref (ad 10)] ++ List.replicate (1 - (lg_sl [.ref (ad 10)]).length) Slot.unset).toArray = ls at hl
  have hl : lv_has ls 1 [(0, .ref (ad 10))] := hl
  obtain ⟨RR, hR⟩ : ∃ z, z = (headSpec (.code y_States_init prog_9_method_1_code 1 none :: zd_ww) { frames := 1, cells := 9, slots := 36259, locals := 30 }).room := ⟨_, rfl⟩
  rw [← hR]
  obtain ⟨QQ, hQ⟩ : ∃ z, z = MQ below (zk_Q 2 D cA ad A b 19 (zk_f_States_init_10 σ)) args s 9 36259 A := ⟨_, rfl⟩
  rw [← hQ]
  have hR1 : 1 ≤ RR.frames := by rw [hR]; exact Nat.le_refl _
  have hR2 : 30 ≤ RR.locals := by rw [hR]; exact Nat.le_refl _
  have hR3 : 9 ≤ RR.cells := by rw [hR]; exact Nat.le_refl _
  have hR4 : 36259 ≤ RR.slots := by rw [hR]; exact Nat.le_refl _
  generalize s.heap = H at hw ⊢
  generalize ([] : List Loc) = locs at hw ⊢
  refine lv_aload_n hx hb d_States_init_0 rfl (lv_at hl 0 rfl) ?_
  refine W.objInit hx hb hown (hts _ zn2_32) (hts _ zn2_1) (hts _ zn2_2) rfl (by rw [hml]; exact hl.1) rfl d_States_init_1 (Nat.le_trans (by decide) hR1) (Nat.le_trans (Nat.le_of_ble_eq_true rfl) hR2) ?_
  refine W.eq (g2 := F0 m 4 ls []) rfl ?_
  refine lv_aload_n hx hb d_States_init_4 rfl (lv_at hl 0 rfl) ?_
  refine lv_sipush (v := 27234) hx hb d_States_init_5 (by decide) ?_
  refine zk_newa (atype := .byte) (t := 1) (N := 27234) (n := 27234) G hw zn2_3 rfl (by decide) rfl (by decide) (by decide) (by decide) (by decide) (Nat.le_trans (by decide) hR3) (Nat.le_trans (by decide) hR4) d_States_init_8 (fun H hw => ?_)
  refine W.widen (k := 1) (n := 27234) (by decide) (by decide) ?_
  refine zk_putF (ci := 3) G hw 10 0 (by decide) (by decide) zi_3 t_zd3 t_zd3_ok n_zd3 rfl rfl rfl (by decide) rfl zn2_33 (fun _ h => h) rfl hin rfl (x := 11) (by decide) (t_zd3_ok 0 (by decide)) rfl rfl d_States_init_10 (fun H locs hw => ?_)
  refine lv_aload_n hx hb d_States_init_13 rfl (lv_at hl 0 rfl) ?_
  refine lv_sipush (v := 800) hx hb d_States_init_14 (by decide) ?_
  refine zk_newa (atype := .int) (t := 0) (N := 800) (n := 800) G hw zn2_11 rfl (by decide) rfl (by decide) (by decide) (by decide) (by decide) (Nat.le_trans (by decide) hR3) (Nat.le_trans (by decide) hR4) d_States_init_17 (fun H hw => ?_)
  refine W.widen (k := 2) (n := 28034) (by decide) (by decide) ?_
  refine zk_putF (ci := 3) G hw 10 1 (by decide) (by decide) zi_3 t_zd3 t_zd3_ok n_zd3 rfl rfl rfl (by decide) rfl zn2_34 (fun _ h => h) rfl hin rfl (x := 12) (by decide) (t_zd3_ok 1 (by decide)) rfl rfl d_States_init_19 (fun H locs hw => ?_)
  refine lv_aload_n hx hb d_States_init_22 rfl (lv_at hl 0 rfl) ?_
  refine lv_sipush (v := 800) hx hb d_States_init_23 (by decide) ?_
  refine zk_newa (atype := .int) (t := 0) (N := 800) (n := 800) G hw zn2_11 rfl (by decide) rfl (by decide) (by decide) (by decide) (by decide) (Nat.le_trans (by decide) hR3) (Nat.le_trans (by decide) hR4) d_States_init_26 (fun H hw => ?_)
  refine W.widen (k := 3) (n := 28834) (by decide) (by decide) ?_
  refine zk_putF (ci := 3) G hw 10 2 (by decide) (by decide) zi_3 t_zd3 t_zd3_ok n_zd3 rfl rfl rfl (by decide) rfl zn2_35 (fun _ h => h) rfl hin rfl (x := 13) (by decide) (t_zd3_ok 2 (by decide)) rfl rfl d_States_init_28 (fun H locs hw => ?_)
  refine lv_aload_n hx hb d_States_init_31 rfl (lv_at hl 0 rfl) ?_
  refine lv_sipush (v := 800) hx hb d_States_init_32 (by decide) ?_
  refine zk_newa (atype := .int) (t := 0) (N := 800) (n := 800) G hw zn2_11 rfl (by decide) rfl (by decide) (by decide) (by decide) (by decide) (Nat.le_trans (by decide) hR3) (Nat.le_trans (by decide) hR4) d_States_init_35 (fun H hw => ?_)
  refine W.widen (k := 4) (n := 29634) (by decide) (by decide) ?_
  refine zk_putF (ci := 3) G hw 10 3 (by decide) (by decide) zi_3 t_zd3 t_zd3_ok n_zd3 rfl rfl rfl (by decide) rfl zn2_36 (fun _ h => h) rfl hin rfl (x := 14) (by decide) (t_zd3_ok 3 (by decide)) rfl rfl d_States_init_37 (fun H locs hw => ?_)
  refine lv_aload_n hx hb d_States_init_40 rfl (lv_at hl 0 rfl) ?_
  refine lv_sipush (v := 3200) hx hb d_States_init_41 (by decide) ?_
  refine zk_newa (atype := .int) (t := 0) (N := 3200) (n := 3200) G hw zn2_11 rfl (by decide) rfl (by decide) (by decide) (by decide) (by decide) (Nat.le_trans (by decide) hR3) (Nat.le_trans (by decide) hR4) d_States_init_44 (fun H hw => ?_)
  refine W.widen (k := 5) (n := 32834) (by decide) (by decide) ?_
  refine zk_putF (ci := 3) G hw 10 4 (by decide) (by decide) zi_3 t_zd3 t_zd3_ok n_zd3 rfl rfl rfl (by decide) rfl zn2_37 (fun _ h => h) rfl hin rfl (x := 15) (by decide) (t_zd3_ok 4 (by decide)) rfl rfl d_States_init_46 (fun H locs hw => ?_)
  refine lv_aload_n hx hb d_States_init_49 rfl (lv_at hl 0 rfl) ?_
  refine lv_sipush (v := 801) hx hb d_States_init_50 (by decide) ?_
  refine zk_newa (atype := .int) (t := 0) (N := 801) (n := 801) G hw zn2_11 rfl (by decide) rfl (by decide) (by decide) (by decide) (by decide) (Nat.le_trans (by decide) hR3) (Nat.le_trans (by decide) hR4) d_States_init_53 (fun H hw => ?_)
  refine W.widen (k := 6) (n := 33635) (by decide) (by decide) ?_
  refine zk_putF (ci := 3) G hw 10 5 (by decide) (by decide) zi_3 t_zd3 t_zd3_ok n_zd3 rfl rfl rfl (by decide) rfl zn2_38 (fun _ h => h) rfl hin rfl (x := 16) (by decide) (t_zd3_ok 5 (by decide)) rfl rfl d_States_init_55 (fun H locs hw => ?_)
  refine lv_aload_n hx hb d_States_init_58 rfl (lv_at hl 0 rfl) ?_
  refine lv_sipush (v := 800) hx hb d_States_init_59 (by decide) ?_
  refine zk_newa (atype := .int) (t := 0) (N := 800) (n := 800) G hw zn2_11 rfl (by decide) rfl (by decide) (by decide) (by decide) (by decide) (Nat.le_trans (by decide) hR3) (Nat.le_trans (by decide) hR4) d_States_init_62 (fun H hw => ?_)
  refine W.widen (k := 7) (n := 34435) (by decide) (by decide) ?_
  refine zk_putF (ci := 3) G hw 10 6 (by decide) (by decide) zi_3 t_zd3 t_zd3_ok n_zd3 rfl rfl rfl (by decide) rfl zn2_39 (fun _ h => h) rfl hin rfl (x := 17) (by decide) (t_zd3_ok 6 (by decide)) rfl rfl d_States_init_64 (fun H locs hw => ?_)
  refine lv_aload_n hx hb d_States_init_67 rfl (lv_at hl 0 rfl) ?_
  refine lv_sipush (v := 1024) hx hb d_States_init_68 (by decide) ?_
  refine zk_newa (atype := .int) (t := 0) (N := 1024) (n := 1024) G hw zn2_11 rfl (by decide) rfl (by decide) (by decide) (by decide) (by decide) (Nat.le_trans (by decide) hR3) (Nat.le_trans (by decide) hR4) d_States_init_71 (fun H hw => ?_)
  refine W.widen (k := 8) (n := 35459) (by decide) (by decide) ?_
  refine zk_putF (ci := 3) G hw 10 7 (by decide) (by decide) zi_3 t_zd3 t_zd3_ok n_zd3 rfl rfl rfl (by decide) rfl zn2_40 (fun _ h => h) rfl hin rfl (x := 18) (by decide) (t_zd3_ok 7 (by decide)) rfl rfl d_States_init_73 (fun H locs hw => ?_)
  refine lv_aload_n hx hb d_States_init_76 rfl (lv_at hl 0 rfl) ?_
  refine lv_sipush (v := 800) hx hb d_States_init_77 (by decide) ?_
  refine zk_newa (atype := .int) (t := 0) (N := 800) (n := 800) G hw zn2_11 rfl (by decide) rfl (by decide) (by decide) (by decide) (by decide) (Nat.le_trans (by decide) hR3) (Nat.le_trans (by decide) hR4) d_States_init_80 (fun H hw => ?_)
  refine W.widen (k := 9) (n := 36259) (by decide) (by decide) ?_
  refine zk_putF (ci := 3) G hw 10 8 (by decide) (by decide) zi_3 t_zd3 t_zd3_ok n_zd3 rfl rfl rfl (by decide) rfl zn2_41 (fun _ h => h) rfl hin rfl (x := 19) (by decide) (t_zd3_ok 8 (by decide)) rfl rfl d_States_init_82 (fun H locs hw => ?_)
  exact zk_vret G hw hr hlocks hQ d_States_init_85
def y_Statement_init : MethodName := ⟨"ScheduleCheck$Statement","<init>","()V"⟩
theorem d_Statement_init_0 : decode prog_8_method_1_code 0 = .ok (.aload_n 0, 1) := by decide +kernel
theorem d_Statement_init_1 : decode prog_8_method_1_code 1 = .ok (.invokespecial 3, 3) := by decide +kernel
theorem d_Statement_init_4 : decode prog_8_method_1_code 4 = .ok (.aload_n 0, 1) := by decide +kernel
theorem d_Statement_init_5 : decode prog_8_method_1_code 5 = .ok (.getstatic 9, 3) := by decide +kernel
theorem d_Statement_init_8 : decode prog_8_method_1_code 8 = .ok (.putfield 15, 3) := by decide +kernel
theorem d_Statement_init_11 : decode prog_8_method_1_code 11 = .ok (.return_, 1) := by decide +kernel
def zk_f_Statement_init_25 (σ : zs_S) : zs_S := (zs_wr σ 25 0 1109)
set_option maxHeartbeats 8000000 in
set_option maxRecDepth 100000 in
theorem zk_Statement_init_25 {l : Launch} {D : va_G} {cA : Nat → ClassId} {ad : Nat → Nat} {A : Nat → Prop} {b : Nat} {σ : zs_S} (hJ : zs_J ad) (had : ∀ o, 1 ≤ o → o ≤ zd_M 2 → ad o = b + (o - 1)) (hA : ∀ q, b ≤ q → A q) : Met l y_Statement_init (.code y_Statement_init prog_8_method_1_code 1 none :: zd_ww) { frames := 1, cells := 0, slots := 0, locals := 30 } (va_Pc [.ref (ad 25)] (zk_U 2 D cA ad A b 25 σ)) (zk_Q 2 D cA ad A b 25 (zk_f_Statement_init_25 σ)) 0 0 A := by
  refine Met.ofW (cc := prog_8_method_1_code) (maxL := 1) (ret := none) (by decide) rfl ?_
  intro p e s m args below meth c s₁ B hml hv
  obtain ⟨hargs, hP, hK, hD, hZ, hz, hd, hO⟩ := hv
  have G : zk_G 2 p s m args c prog_8_method_1_code 1 "ScheduleCheck$Statement" D cA ad A b := ⟨⟨B.exec, B.bytes, hml, findClass_of_methodNamed B.named, fun w h => atoms_spec B.pre w (List.mem_cons_of_mem _ h)⟩, hK, hJ, hZ, had, hA, hO⟩
  have hw : zk_I 2 D cA ad A s b 25 σ s.heap [] := ⟨hP, hD, va_S.rf, hz, hd⟩
  have hx := G.1.1
  have hb := G.1.2.1
  have hown := G.1.2.2.2.1
  have hts := G.1.2.2.2.2
  have hr := B.returns
  have hlocks := B.notSynchronized
  have hin : meth.name = "<init>" := (name_of_methodNamed B.named B.method).1
  have he : entryFrame m args 1 = F0 m 0 ((lg_sl [.ref (ad 25)] ++ List.replicate (1 - (lg_sl [.ref (ad 25)]).length) Slot.unset).toArray) [] := by rw [hargs]; exact lg_entry_eq m _ 1
  have hl := lv_entry [.ref (ad 25)] (n := 1) (Nat.le_of_ble_eq_true rfl)
  rw [he]
  generalize (lg_sl [.ref (ad 25)] ++ List.replicate (1 - (lg_sl [.ref (ad 25)]).length) Slot.unset).toArray = ls at hl
  have hl : lv_has ls 1 [(0, .ref (ad 25))] := hl
  obtain ⟨RR, hR⟩ : ∃ z, z = (headSpec (.code y_Statement_init prog_8_method_1_code 1 none :: zd_ww) { frames := 1, cells := 0, slots := 0, locals := 30 }).room := ⟨_, rfl⟩
  rw [← hR]
  obtain ⟨QQ, hQ⟩ : ∃ z, z = MQ below (zk_Q 2 D cA ad A b 25 (zk_f_Statement_init_25 σ)) args s 0 0 A := ⟨_, rfl⟩
  rw [← hQ]
  have hR1 : 1 ≤ RR.frames := by rw [hR]; exact Nat.le_refl _
  have hR2 : 30 ≤ RR.locals := by rw [hR]; exact Nat.le_refl _
  have hR3 : 0 ≤ RR.cells := by rw [hR]; exact Nat.le_refl _
  have hR4 : 0 ≤ RR.slots := by rw [hR]; exact Nat.le_refl _
  generalize s.heap = H at hw ⊢
  generalize ([] : List Loc) = locs at hw ⊢
  refine lv_aload_n hx hb d_Statement_init_0 rfl (lv_at hl 0 rfl) ?_
  refine W.objInit hx hb hown (hts _ zn2_57) (hts _ zn2_1) (hts _ zn2_2) rfl (by rw [hml]; exact hl.1) rfl d_Statement_init_1 (Nat.le_trans (by decide) hR1) (Nat.le_trans (Nat.le_of_ble_eq_true rfl) hR2) ?_
  refine W.eq (g2 := F0 m 4 ls []) rfl ?_
  refine lv_aload_n hx hb d_Statement_init_4 rfl (lv_at hl 0 rfl) ?_
  refine va_gets (C := "ScheduleCheck$Kind") (n := "STOP") (d := "LScheduleCheck$Kind;") (v := .ref (ad 1109)) hx hb ((G.2.2.2.1.1 rfl).2.2.1.1 9 (by decide)).1 hw.2.2.1 hown (hts _ zn2_58) (fun _ h => h) d_Statement_init_5 ?_
  refine zk_putr (ci := 6) G hw 25 0 (by decide) (by decide) zi_6 t_zd6 t_zd6_ok n_zd6 rfl rfl rfl (by decide) rfl zn2_59 (fun _ h => h) rfl  (x := 1109) (by decide) (t_zd6_ok 0 (by decide)) rfl rfl d_Statement_init_8 (fun H locs hw => ?_)
  exact zk_vret G hw hr hlocks hQ d_Statement_init_11
def zk_f_Statement_init_26 (σ : zs_S) : zs_S := (zs_wr σ 26 0 1109)
set_option maxHeartbeats 8000000 in
set_option maxRecDepth 100000 in
theorem zk_Statement_init_26 {l : Launch} {D : va_G} {cA : Nat → ClassId} {ad : Nat → Nat} {A : Nat → Prop} {b : Nat} {σ : zs_S} (hJ : zs_J ad) (had : ∀ o, 1 ≤ o → o ≤ zd_M 2 → ad o = b + (o - 1)) (hA : ∀ q, b ≤ q → A q) : Met l y_Statement_init (.code y_Statement_init prog_8_method_1_code 1 none :: zd_ww) { frames := 1, cells := 0, slots := 0, locals := 30 } (va_Pc [.ref (ad 26)] (zk_U 2 D cA ad A b 26 σ)) (zk_Q 2 D cA ad A b 26 (zk_f_Statement_init_26 σ)) 0 0 A := by
  refine Met.ofW (cc := prog_8_method_1_code) (maxL := 1) (ret := none) (by decide) rfl ?_
  intro p e s m args below meth c s₁ B hml hv
  obtain ⟨hargs, hP, hK, hD, hZ, hz, hd, hO⟩ := hv
  have G : zk_G 2 p s m args c prog_8_method_1_code 1 "ScheduleCheck$Statement" D cA ad A b := ⟨⟨B.exec, B.bytes, hml, findClass_of_methodNamed B.named, fun w h => atoms_spec B.pre w (List.mem_cons_of_mem _ h)⟩, hK, hJ, hZ, had, hA, hO⟩
  have hw : zk_I 2 D cA ad A s b 26 σ s.heap [] := ⟨hP, hD, va_S.rf, hz, hd⟩
  have hx := G.1.1
  have hb := G.1.2.1
  have hown := G.1.2.2.2.1
  have hts := G.1.2.2.2.2
  have hr := B.returns
  have hlocks := B.notSynchronized
  have hin : meth.name = "<init>" := (name_of_methodNamed B.named B.method).1
  have he : entryFrame m args 1 = F0 m 0 ((lg_sl [.ref (ad 26)] ++ List.replicate (1 - (lg_sl [.ref (ad 26)]).length) Slot.unset).toArray) [] := by rw [hargs]; exact lg_entry_eq m _ 1
  have hl := lv_entry [.ref (ad 26)] (n := 1) (Nat.le_of_ble_eq_true rfl)
  rw [he]
  generalize (lg_sl [.ref (ad 26)] ++ List.replicate (1 - (lg_sl [.ref (ad 26)]).length) Slot.unset).toArray = ls at hl
  have hl : lv_has ls 1 [(0, .ref (ad 26))] := hl
  obtain ⟨RR, hR⟩ : ∃ z, z = (headSpec (.code y_Statement_init prog_8_method_1_code 1 none :: zd_ww) { frames := 1, cells := 0, slots := 0, locals := 30 }).room := ⟨_, rfl⟩
  rw [← hR]
  obtain ⟨QQ, hQ⟩ : ∃ z, z = MQ below (zk_Q 2 D cA ad A b 26 (zk_f_Statement_init_26 σ)) args s 0 0 A := ⟨_, rfl⟩
  rw [← hQ]
  have hR1 : 1 ≤ RR.frames := by rw [hR]; exact Nat.le_refl _
  have hR2 : 30 ≤ RR.locals := by rw [hR]; exact Nat.le_refl _
  have hR3 : 0 ≤ RR.cells := by rw [hR]; exact Nat.le_refl _
  have hR4 : 0 ≤ RR.slots := by rw [hR]; exact Nat.le_refl _
  generalize s.heap = H at hw ⊢
  generalize ([] : List Loc) = locs at hw ⊢
  refine lv_aload_n hx hb d_Statement_init_0 rfl (lv_at hl 0 rfl) ?_
  refine W.objInit hx hb hown (hts _ zn2_57) (hts _ zn2_1) (hts _ zn2_2) rfl (by rw [hml]; exact hl.1) rfl d_Statement_init_1 (Nat.le_trans (by decide) hR1) (Nat.le_trans (Nat.le_of_ble_eq_true rfl) hR2) ?_
  refine W.eq (g2 := F0 m 4 ls []) rfl ?_
  refine lv_aload_n hx hb d_Statement_init_4 rfl (lv_at hl 0 rfl) ?_
  refine va_gets (C := "ScheduleCheck$Kind") (n := "STOP") (d := "LScheduleCheck$Kind;") (v := .ref (ad 1109)) hx hb ((G.2.2.2.1.1 rfl).2.2.1.1 9 (by decide)).1 hw.2.2.1 hown (hts _ zn2_58) (fun _ h => h) d_Statement_init_5 ?_
  refine zk_putr (ci := 6) G hw 26 0 (by decide) (by decide) zi_6 t_zd6 t_zd6_ok n_zd6 rfl rfl rfl (by decide) rfl zn2_59 (fun _ h => h) rfl  (x := 1109) (by decide) (t_zd6_ok 0 (by decide)) rfl rfl d_Statement_init_8 (fun H locs hw => ?_)
  exact zk_vret G hw hr hlocks hQ d_Statement_init_11
def zk_f_Statement_init_27 (σ : zs_S) : zs_S := (zs_wr σ 27 0 1109)
set_option maxHeartbeats 8000000 in
set_option maxRecDepth 100000 in
theorem zk_Statement_init_27 {l : Launch} {D : va_G} {cA : Nat → ClassId} {ad : Nat → Nat} {A : Nat → Prop} {b : Nat} {σ : zs_S} (hJ : zs_J ad) (had : ∀ o, 1 ≤ o → o ≤ zd_M 2 → ad o = b + (o - 1)) (hA : ∀ q, b ≤ q → A q) : Met l y_Statement_init (.code y_Statement_init prog_8_method_1_code 1 none :: zd_ww) { frames := 1, cells := 0, slots := 0, locals := 30 } (va_Pc [.ref (ad 27)] (zk_U 2 D cA ad A b 27 σ)) (zk_Q 2 D cA ad A b 27 (zk_f_Statement_init_27 σ)) 0 0 A := by
  refine Met.ofW (cc := prog_8_method_1_code) (maxL := 1) (ret := none) (by decide) rfl ?_
  intro p e s m args below meth c s₁ B hml hv
  obtain ⟨hargs, hP, hK, hD, hZ, hz, hd, hO⟩ := hv
  have G : zk_G 2 p s m args c prog_8_method_1_code 1 "ScheduleCheck$Statement" D cA ad A b := ⟨⟨B.exec, B.bytes, hml, findClass_of_methodNamed B.named, fun w h => atoms_spec B.pre w (List.mem_cons_of_mem _ h)⟩, hK, hJ, hZ, had, hA, hO⟩
  have hw : zk_I 2 D cA ad A s b 27 σ s.heap [] := ⟨hP, hD, va_S.rf, hz, hd⟩
  have hx := G.1.1
  have hb := G.1.2.1
  have hown := G.1.2.2.2.1
  have hts := G.1.2.2.2.2
  have hr := B.returns
  have hlocks := B.notSynchronized
  have hin : meth.name = "<init>" := (name_of_methodNamed B.named B.method).1
  have he : entryFrame m args 1 = F0 m 0 ((lg_sl [.ref (ad 27)] ++ List.replicate (1 - (lg_sl [.ref (ad 27)]).length) Slot.unset).toArray) [] := by rw [hargs]; exact lg_entry_eq m _ 1
  have hl := lv_entry [.ref (ad 27)] (n := 1) (Nat.le_of_ble_eq_true rfl)
  rw [he]
  generalize (lg_sl [.ref (ad 27)] ++ List.replicate (1 - (lg_sl [.ref (ad 27)]).length) Slot.unset).toArray = ls at hl
  have hl : lv_has ls 1 [(0, .ref (ad 27))] := hl
  obtain ⟨RR, hR⟩ : ∃ z, z = (headSpec (.code y_Statement_init prog_8_method_1_code 1 none :: zd_ww) { frames := 1, cells := 0, slots := 0, locals := 30 }).room := ⟨_, rfl⟩
  rw [← hR]
  obtain ⟨QQ, hQ⟩ : ∃ z, z = MQ below (zk_Q 2 D cA ad A b 27 (zk_f_Statement_init_27 σ)) args s 0 0 A := ⟨_, rfl⟩
  rw [← hQ]
  have hR1 : 1 ≤ RR.frames := by rw [hR]; exact Nat.le_refl _
  have hR2 : 30 ≤ RR.locals := by rw [hR]; exact Nat.le_refl _
  have hR3 : 0 ≤ RR.cells := by rw [hR]; exact Nat.le_refl _
  have hR4 : 0 ≤ RR.slots := by rw [hR]; exact Nat.le_refl _
  generalize s.heap = H at hw ⊢
  generalize ([] : List Loc) = locs at hw ⊢
  refine lv_aload_n hx hb d_Statement_init_0 rfl (lv_at hl 0 rfl) ?_
  refine W.objInit hx hb hown (hts _ zn2_57) (hts _ zn2_1) (hts _ zn2_2) rfl (by rw [hml]; exact hl.1) rfl d_Statement_init_1 (Nat.le_trans (by decide) hR1) (Nat.le_trans (Nat.le_of_ble_eq_true rfl) hR2) ?_
  refine W.eq (g2 := F0 m 4 ls []) rfl ?_
  refine lv_aload_n hx hb d_Statement_init_4 rfl (lv_at hl 0 rfl) ?_
  refine va_gets (C := "ScheduleCheck$Kind") (n := "STOP") (d := "LScheduleCheck$Kind;") (v := .ref (ad 1109)) hx hb ((G.2.2.2.1.1 rfl).2.2.1.1 9 (by decide)).1 hw.2.2.1 hown (hts _ zn2_58) (fun _ h => h) d_Statement_init_5 ?_
  refine zk_putr (ci := 6) G hw 27 0 (by decide) (by decide) zi_6 t_zd6 t_zd6_ok n_zd6 rfl rfl rfl (by decide) rfl zn2_59 (fun _ h => h) rfl  (x := 1109) (by decide) (t_zd6_ok 0 (by decide)) rfl rfl d_Statement_init_8 (fun H locs hw => ?_)
  exact zk_vret G hw hr hlocks hQ d_Statement_init_11
def zk_f_Statement_init_28 (σ : zs_S) : zs_S := (zs_wr σ 28 0 1109)
set_option maxHeartbeats 8000000 in
set_option maxRecDepth 100000 in
theorem zk_Statement_init_28 {l : Launch} {D : va_G} {cA : Nat → ClassId} {ad : Nat → Nat} {A : Nat → Prop} {b : Nat} {σ : zs_S} (hJ : zs_J ad) (had : ∀ o, 1 ≤ o → o ≤ zd_M 2 → ad o = b + (o - 1)) (hA : ∀ q, b ≤ q → A q) : Met l y_Statement_init (.code y_Statement_init prog_8_method_1_code 1 none :: zd_ww) { frames := 1, cells := 0, slots := 0, locals := 30 } (va_Pc [.ref (ad 28)] (zk_U 2 D cA ad A b 28 σ)) (zk_Q 2 D cA ad A b 28 (zk_f_Statement_init_28 σ)) 0 0 A := by
  refine Met.ofW (cc := prog_8_method_1_code) (maxL := 1) (ret := none) (by decide) rfl ?_
  intro p e s m args below meth c s₁ B hml hv
  obtain ⟨hargs, hP, hK, hD, hZ, hz, hd, hO⟩ := hv
  have G : zk_G 2 p s m args c prog_8_method_1_code 1 "ScheduleCheck$Statement" D cA ad A b := ⟨⟨B.exec, B.bytes, hml, findClass_of_methodNamed B.named, fun w h => atoms_spec B.pre w (List.mem_cons_of_mem _ h)⟩, hK, hJ, hZ, had, hA, hO⟩
  have hw : zk_I 2 D cA ad A s b 28 σ s.heap [] := ⟨hP, hD, va_S.rf, hz, hd⟩
  have hx := G.1.1
  have hb := G.1.2.1
  have hown := G.1.2.2.2.1
  have hts := G.1.2.2.2.2
  have hr := B.returns
  have hlocks := B.notSynchronized
  have hin : meth.name = "<init>" := (name_of_methodNamed B.named B.method).1
  have he : entryFrame m args 1 = F0 m 0 ((lg_sl [.ref (ad 28)] ++ List.replicate (1 - (lg_sl [.ref (ad 28)]).length) Slot.unset).toArray) [] := by rw [hargs]; exact lg_entry_eq m _ 1
  have hl := lv_entry [.ref (ad 28)] (n := 1) (Nat.le_of_ble_eq_true rfl)
  rw [he]
  generalize (lg_sl [.ref (ad 28)] ++ List.replicate (1 - (lg_sl [.ref (ad 28)]).length) Slot.unset).toArray = ls at hl
  have hl : lv_has ls 1 [(0, .ref (ad 28))] := hl
  obtain ⟨RR, hR⟩ : ∃ z, z = (headSpec (.code y_Statement_init prog_8_method_1_code 1 none :: zd_ww) { frames := 1, cells := 0, slots := 0, locals := 30 }).room := ⟨_, rfl⟩
  rw [← hR]
  obtain ⟨QQ, hQ⟩ : ∃ z, z = MQ below (zk_Q 2 D cA ad A b 28 (zk_f_Statement_init_28 σ)) args s 0 0 A := ⟨_, rfl⟩
  rw [← hQ]
  have hR1 : 1 ≤ RR.frames := by rw [hR]; exact Nat.le_refl _
  have hR2 : 30 ≤ RR.locals := by rw [hR]; exact Nat.le_refl _
  have hR3 : 0 ≤ RR.cells := by rw [hR]; exact Nat.le_refl _
  have hR4 : 0 ≤ RR.slots := by rw [hR]; exact Nat.le_refl _
  generalize s.heap = H at hw ⊢
  generalize ([] : List Loc) = locs at hw ⊢
  refine lv_aload_n hx hb d_Statement_init_0 rfl (lv_at hl 0 rfl) ?_
  refine W.objInit hx hb hown (hts _ zn2_57) (hts _ zn2_1) (hts _ zn2_2) rfl (by rw [hml]; exact hl.1) rfl d_Statement_init_1 (Nat.le_trans (by decide) hR1) (Nat.le_trans (Nat.le_of_ble_eq_true rfl) hR2) ?_
  refine W.eq (g2 := F0 m 4 ls []) rfl ?_
  refine lv_aload_n hx hb d_Statement_init_4 rfl (lv_at hl 0 rfl) ?_
  refine va_gets (C := "ScheduleCheck$Kind") (n := "STOP") (d := "LScheduleCheck$Kind;") (v := .ref (ad 1109)) hx hb ((G.2.2.2.1.1 rfl).2.2.1.1 9 (by decide)).1 hw.2.2.1 hown (hts _ zn2_58) (fun _ h => h) d_Statement_init_5 ?_
  refine zk_putr (ci := 6) G hw 28 0 (by decide) (by decide) zi_6 t_zd6 t_zd6_ok n_zd6 rfl rfl rfl (by decide) rfl zn2_59 (fun _ h => h) rfl  (x := 1109) (by decide) (t_zd6_ok 0 (by decide)) rfl rfl d_Statement_init_8 (fun H locs hw => ?_)
  exact zk_vret G hw hr hlocks hQ d_Statement_init_11
def zk_f_Statement_init_29 (σ : zs_S) : zs_S := (zs_wr σ 29 0 1109)
set_option maxHeartbeats 8000000 in
set_option maxRecDepth 100000 in
theorem zk_Statement_init_29 {l : Launch} {D : va_G} {cA : Nat → ClassId} {ad : Nat → Nat} {A : Nat → Prop} {b : Nat} {σ : zs_S} (hJ : zs_J ad) (had : ∀ o, 1 ≤ o → o ≤ zd_M 2 → ad o = b + (o - 1)) (hA : ∀ q, b ≤ q → A q) : Met l y_Statement_init (.code y_Statement_init prog_8_method_1_code 1 none :: zd_ww) { frames := 1, cells := 0, slots := 0, locals := 30 } (va_Pc [.ref (ad 29)] (zk_U 2 D cA ad A b 29 σ)) (zk_Q 2 D cA ad A b 29 (zk_f_Statement_init_29 σ)) 0 0 A := by
  refine Met.ofW (cc := prog_8_method_1_code) (maxL := 1) (ret := none) (by decide) rfl ?_
  intro p e s m args below meth c s₁ B hml hv
  obtain ⟨hargs, hP, hK, hD, hZ, hz, hd, hO⟩ := hv
  have G : zk_G 2 p s m args c prog_8_method_1_code 1 "ScheduleCheck$Statement" D cA ad A b := ⟨⟨B.exec, B.bytes, hml, findClass_of_methodNamed B.named, fun w h => atoms_spec B.pre w (List.mem_cons_of_mem _ h)⟩, hK, hJ, hZ, had, hA, hO⟩
  have hw : zk_I 2 D cA ad A s b 29 σ s.heap [] := ⟨hP, hD, va_S.rf, hz, hd⟩
  have hx := G.1.1
  have hb := G.1.2.1
  have hown := G.1.2.2.2.1
  have hts := G.1.2.2.2.2
  have hr := B.returns
  have hlocks := B.notSynchronized
  have hin : meth.name = "<init>" := (name_of_methodNamed B.named B.method).1
  have he : entryFrame m args 1 = F0 m 0 ((lg_sl [.ref (ad 29)] ++ List.replicate (1 - (lg_sl [.ref (ad 29)]).length) Slot.unset).toArray) [] := by rw [hargs]; exact lg_entry_eq m _ 1
  have hl := lv_entry [.ref (ad 29)] (n := 1) (Nat.le_of_ble_eq_true rfl)
  rw [he]
  generalize (lg_sl [.ref (ad 29)] ++ List.replicate (1 - (lg_sl [.ref (ad 29)]).length) Slot.unset).toArray = ls at hl
  have hl : lv_has ls 1 [(0, .ref (ad 29))] := hl
  obtain ⟨RR, hR⟩ : ∃ z, z = (headSpec (.code y_Statement_init prog_8_method_1_code 1 none :: zd_ww) { frames := 1, cells := 0, slots := 0, locals := 30 }).room := ⟨_, rfl⟩
  rw [← hR]
  obtain ⟨QQ, hQ⟩ : ∃ z, z = MQ below (zk_Q 2 D cA ad A b 29 (zk_f_Statement_init_29 σ)) args s 0 0 A := ⟨_, rfl⟩
  rw [← hQ]
  have hR1 : 1 ≤ RR.frames := by rw [hR]; exact Nat.le_refl _
  have hR2 : 30 ≤ RR.locals := by rw [hR]; exact Nat.le_refl _
  have hR3 : 0 ≤ RR.cells := by rw [hR]; exact Nat.le_refl _
  have hR4 : 0 ≤ RR.slots := by rw [hR]; exact Nat.le_refl _
  generalize s.heap = H at hw ⊢
  generalize ([] : List Loc) = locs at hw ⊢
  refine lv_aload_n hx hb d_Statement_init_0 rfl (lv_at hl 0 rfl) ?_
  refine W.objInit hx hb hown (hts _ zn2_57) (hts _ zn2_1) (hts _ zn2_2) rfl (by rw [hml]; exact hl.1) rfl d_Statement_init_1 (Nat.le_trans (by decide) hR1) (Nat.le_trans (Nat.le_of_ble_eq_true rfl) hR2) ?_
  refine W.eq (g2 := F0 m 4 ls []) rfl ?_
  refine lv_aload_n hx hb d_Statement_init_4 rfl (lv_at hl 0 rfl) ?_
  refine va_gets (C := "ScheduleCheck$Kind") (n := "STOP") (d := "LScheduleCheck$Kind;") (v := .ref (ad 1109)) hx hb ((G.2.2.2.1.1 rfl).2.2.1.1 9 (by decide)).1 hw.2.2.1 hown (hts _ zn2_58) (fun _ h => h) d_Statement_init_5 ?_
  refine zk_putr (ci := 6) G hw 29 0 (by decide) (by decide) zi_6 t_zd6 t_zd6_ok n_zd6 rfl rfl rfl (by decide) rfl zn2_59 (fun _ h => h) rfl  (x := 1109) (by decide) (t_zd6_ok 0 (by decide)) rfl rfl d_Statement_init_8 (fun H locs hw => ?_)
  exact zk_vret G hw hr hlocks hQ d_Statement_init_11
def zk_f_Statement_init_30 (σ : zs_S) : zs_S := (zs_wr σ 30 0 1109)
set_option maxHeartbeats 8000000 in
set_option maxRecDepth 100000 in
theorem zk_Statement_init_30 {l : Launch} {D : va_G} {cA : Nat → ClassId} {ad : Nat → Nat} {A : Nat → Prop} {b : Nat} {σ : zs_S} (hJ : zs_J ad) (had : ∀ o, 1 ≤ o → o ≤ zd_M 2 → ad o = b + (o - 1)) (hA : ∀ q, b ≤ q → A q) : Met l y_Statement_init (.code y_Statement_init prog_8_method_1_code 1 none :: zd_ww) { frames := 1, cells := 0, slots := 0, locals := 30 } (va_Pc [.ref (ad 30)] (zk_U 2 D cA ad A b 30 σ)) (zk_Q 2 D cA ad A b 30 (zk_f_Statement_init_30 σ)) 0 0 A := by
  refine Met.ofW (cc := prog_8_method_1_code) (maxL := 1) (ret := none) (by decide) rfl ?_
  intro p e s m args below meth c s₁ B hml hv
  obtain ⟨hargs, hP, hK, hD, hZ, hz, hd, hO⟩ := hv
  have G : zk_G 2 p s m args c prog_8_method_1_code 1 "ScheduleCheck$Statement" D cA ad A b := ⟨⟨B.exec, B.bytes, hml, findClass_of_methodNamed B.named, fun w h => atoms_spec B.pre w (List.mem_cons_of_mem _ h)⟩, hK, hJ, hZ, had, hA, hO⟩
  have hw : zk_I 2 D cA ad A s b 30 σ s.heap [] := ⟨hP, hD, va_S.rf, hz, hd⟩
  have hx := G.1.1
  have hb := G.1.2.1
  have hown := G.1.2.2.2.1
  have hts := G.1.2.2.2.2
  have hr := B.returns
  have hlocks := B.notSynchronized
  have hin : meth.name = "<init>" := (name_of_methodNamed B.named B.method).1
  have he : entryFrame m args 1 = F0 m 0 ((lg_sl [.ref (ad 30)] ++ List.replicate (1 - (lg_sl [.ref (ad 30)]).length) Slot.unset).toArray) [] := by rw [hargs]; exact lg_entry_eq m _ 1
  have hl := lv_entry [.ref (ad 30)] (n := 1) (Nat.le_of_ble_eq_true rfl)
  rw [he]
  generalize (lg_sl [.ref (ad 30)] ++ List.replicate (1 - (lg_sl [.ref (ad 30)]).length) Slot.unset).toArray = ls at hl
  have hl : lv_has ls 1 [(0, .ref (ad 30))] := hl
  obtain ⟨RR, hR⟩ : ∃ z, z = (headSpec (.code y_Statement_init prog_8_method_1_code 1 none :: zd_ww) { frames := 1, cells := 0, slots := 0, locals := 30 }).room := ⟨_, rfl⟩
  rw [← hR]
  obtain ⟨QQ, hQ⟩ : ∃ z, z = MQ below (zk_Q 2 D cA ad A b 30 (zk_f_Statement_init_30 σ)) args s 0 0 A := ⟨_, rfl⟩
  rw [← hQ]
  have hR1 : 1 ≤ RR.frames := by rw [hR]; exact Nat.le_refl _
  have hR2 : 30 ≤ RR.locals := by rw [hR]; exact Nat.le_refl _
  have hR3 : 0 ≤ RR.cells := by rw [hR]; exact Nat.le_refl _
  have hR4 : 0 ≤ RR.slots := by rw [hR]; exact Nat.le_refl _
  generalize s.heap = H at hw ⊢
  generalize ([] : List Loc) = locs at hw ⊢
  refine lv_aload_n hx hb d_Statement_init_0 rfl (lv_at hl 0 rfl) ?_
  refine W.objInit hx hb hown (hts _ zn2_57) (hts _ zn2_1) (hts _ zn2_2) rfl (by rw [hml]; exact hl.1) rfl d_Statement_init_1 (Nat.le_trans (by decide) hR1) (Nat.le_trans (Nat.le_of_ble_eq_true rfl) hR2) ?_
  refine W.eq (g2 := F0 m 4 ls []) rfl ?_
  refine lv_aload_n hx hb d_Statement_init_4 rfl (lv_at hl 0 rfl) ?_
  refine va_gets (C := "ScheduleCheck$Kind") (n := "STOP") (d := "LScheduleCheck$Kind;") (v := .ref (ad 1109)) hx hb ((G.2.2.2.1.1 rfl).2.2.1.1 9 (by decide)).1 hw.2.2.1 hown (hts _ zn2_58) (fun _ h => h) d_Statement_init_5 ?_
  refine zk_putr (ci := 6) G hw 30 0 (by decide) (by decide) zi_6 t_zd6 t_zd6_ok n_zd6 rfl rfl rfl (by decide) rfl zn2_59 (fun _ h => h) rfl  (x := 1109) (by decide) (t_zd6_ok 0 (by decide)) rfl rfl d_Statement_init_8 (fun H locs hw => ?_)
  exact zk_vret G hw hr hlocks hQ d_Statement_init_11
def zk_f_Statement_init_31 (σ : zs_S) : zs_S := (zs_wr σ 31 0 1109)
set_option maxHeartbeats 8000000 in
set_option maxRecDepth 100000 in
theorem zk_Statement_init_31 {l : Launch} {D : va_G} {cA : Nat → ClassId} {ad : Nat → Nat} {A : Nat → Prop} {b : Nat} {σ : zs_S} (hJ : zs_J ad) (had : ∀ o, 1 ≤ o → o ≤ zd_M 2 → ad o = b + (o - 1)) (hA : ∀ q, b ≤ q → A q) : Met l y_Statement_init (.code y_Statement_init prog_8_method_1_code 1 none :: zd_ww) { frames := 1, cells := 0, slots := 0, locals := 30 } (va_Pc [.ref (ad 31)] (zk_U 2 D cA ad A b 31 σ)) (zk_Q 2 D cA ad A b 31 (zk_f_Statement_init_31 σ)) 0 0 A := by
  refine Met.ofW (cc := prog_8_method_1_code) (maxL := 1) (ret := none) (by decide) rfl ?_
  intro p e s m args below meth c s₁ B hml hv
  obtain ⟨hargs, hP, hK, hD, hZ, hz, hd, hO⟩ := hv
  have G : zk_G 2 p s m args c prog_8_method_1_code 1 "ScheduleCheck$Statement" D cA ad A b := ⟨⟨B.exec, B.bytes, hml, findClass_of_methodNamed B.named, fun w h => atoms_spec B.pre w (List.mem_cons_of_mem _ h)⟩, hK, hJ, hZ, had, hA, hO⟩
  have hw : zk_I 2 D cA ad A s b 31 σ s.heap [] := ⟨hP, hD, va_S.rf, hz, hd⟩
  have hx := G.1.1
  have hb := G.1.2.1
  have hown := G.1.2.2.2.1
  have hts := G.1.2.2.2.2
  have hr := B.returns
  have hlocks := B.notSynchronized
  have hin : meth.name = "<init>" := (name_of_methodNamed B.named B.method).1
  have he : entryFrame m args 1 = F0 m 0 ((lg_sl [.ref (ad 31)] ++ List.replicate (1 - (lg_sl [.ref (ad 31)]).length) Slot.unset).toArray) [] := by rw [hargs]; exact lg_entry_eq m _ 1
  have hl := lv_entry [.ref (ad 31)] (n := 1) (Nat.le_of_ble_eq_true rfl)
  rw [he]
  generalize (lg_sl [.ref (ad 31)] ++ List.replicate (1 - (lg_sl [.ref (ad 31)]).length) Slot.unset).toArray = ls at hl
  have hl : lv_has ls 1 [(0, .ref (ad 31))] := hl
  obtain ⟨RR, hR⟩ : ∃ z, z = (headSpec (.code y_Statement_init prog_8_method_1_code 1 none :: zd_ww) { frames := 1, cells := 0, slots := 0, locals := 30 }).room := ⟨_, rfl⟩
  rw [← hR]
  obtain ⟨QQ, hQ⟩ : ∃ z, z = MQ below (zk_Q 2 D cA ad A b 31 (zk_f_Statement_init_31 σ)) args s 0 0 A := ⟨_, rfl⟩
  rw [← hQ]
  have hR1 : 1 ≤ RR.frames := by rw [hR]; exact Nat.le_refl _
  have hR2 : 30 ≤ RR.locals := by rw [hR]; exact Nat.le_refl _
  have hR3 : 0 ≤ RR.cells := by rw [hR]; exact Nat.le_refl _
  have hR4 : 0 ≤ RR.slots := by rw [hR]; exact Nat.le_refl _
  generalize s.heap = H at hw ⊢
  generalize ([] : List Loc) = locs at hw ⊢
  refine lv_aload_n hx hb d_Statement_init_0 rfl (lv_at hl 0 rfl) ?_
  refine W.objInit hx hb hown (hts _ zn2_57) (hts _ zn2_1) (hts _ zn2_2) rfl (by rw [hml]; exact hl.1) rfl d_Statement_init_1 (Nat.le_trans (by decide) hR1) (Nat.le_trans (Nat.le_of_ble_eq_true rfl) hR2) ?_
  refine W.eq (g2 := F0 m 4 ls []) rfl ?_
  refine lv_aload_n hx hb d_Statement_init_4 rfl (lv_at hl 0 rfl) ?_
  refine va_gets (C := "ScheduleCheck$Kind") (n := "STOP") (d := "LScheduleCheck$Kind;") (v := .ref (ad 1109)) hx hb ((G.2.2.2.1.1 rfl).2.2.1.1 9 (by decide)).1 hw.2.2.1 hown (hts _ zn2_58) (fun _ h => h) d_Statement_init_5 ?_
  refine zk_putr (ci := 6) G hw 31 0 (by decide) (by decide) zi_6 t_zd6 t_zd6_ok n_zd6 rfl rfl rfl (by decide) rfl zn2_59 (fun _ h => h) rfl  (x := 1109) (by decide) (t_zd6_ok 0 (by decide)) rfl rfl d_Statement_init_8 (fun H locs hw => ?_)
  exact zk_vret G hw hr hlocks hQ d_Statement_init_11
def zk_f_Statement_init_32 (σ : zs_S) : zs_S := (zs_wr σ 32 0 1109)
set_option maxHeartbeats 8000000 in
set_option maxRecDepth 100000 in
theorem zk_Statement_init_32 {l : Launch} {D : va_G} {cA : Nat → ClassId} {ad : Nat → Nat} {A : Nat → Prop} {b : Nat} {σ : zs_S} (hJ : zs_J ad) (had : ∀ o, 1 ≤ o → o ≤ zd_M 2 → ad o = b + (o - 1)) (hA : ∀ q, b ≤ q → A q) : Met l y_Statement_init (.code y_Statement_init prog_8_method_1_code 1 none :: zd_ww) { frames := 1, cells := 0, slots := 0, locals := 30 } (va_Pc [.ref (ad 32)] (zk_U 2 D cA ad A b 32 σ)) (zk_Q 2 D cA ad A b 32 (zk_f_Statement_init_32 σ)) 0 0 A := by
  refine Met.ofW (cc := prog_8_method_1_code) (maxL := 1) (ret := none) (by decide) rfl ?_
  intro p e s m args below meth c s₁ B hml hv
  obtain ⟨hargs, hP, hK, hD, hZ, hz, hd, hO⟩ := hv
  have G : zk_G 2 p s m args c prog_8_method_1_code 1 "ScheduleCheck$Statement" D cA ad A b := ⟨⟨B.exec, B.bytes, hml, findClass_of_methodNamed B.named, fun w h => atoms_spec B.pre w (List.mem_cons_of_mem _ h)⟩, hK, hJ, hZ, had, hA, hO⟩
  have hw : zk_I 2 D cA ad A s b 32 σ s.heap [] := ⟨hP, hD, va_S.rf, hz, hd⟩
  have hx := G.1.1
  have hb := G.1.2.1
  have hown := G.1.2.2.2.1
  have hts := G.1.2.2.2.2
  have hr := B.returns
  have hlocks := B.notSynchronized
  have hin : meth.name = "<init>" := (name_of_methodNamed B.named B.method).1
  have he : entryFrame m args 1 = F0 m 0 ((lg_sl [.ref (ad 32)] ++ List.replicate (1 - (lg_sl [.ref (ad 32)]).length) Slot.unset).toArray) [] := by rw [hargs]; exact lg_entry_eq m _ 1
  have hl := lv_entry [.ref (ad 32)] (n := 1) (Nat.le_of_ble_eq_true rfl)
  rw [he]
  generalize (lg_sl [.ref (ad 32)] ++ List.replicate (1 - (lg_sl [.ref (ad 32)]).length) Slot.unset).toArray = ls at hl
  have hl : lv_has ls 1 [(0, .ref (ad 32))] := hl
  obtain ⟨RR, hR⟩ : ∃ z, z = (headSpec (.code y_Statement_init prog_8_method_1_code 1 none :: zd_ww) { frames := 1, cells := 0, slots := 0, locals := 30 }).room := ⟨_, rfl⟩
  rw [← hR]
  obtain ⟨QQ, hQ⟩ : ∃ z, z = MQ below (zk_Q 2 D cA ad A b 32 (zk_f_Statement_init_32 σ)) args s 0 0 A := ⟨_, rfl⟩
  rw [← hQ]
  have hR1 : 1 ≤ RR.frames := by rw [hR]; exact Nat.le_refl _
  have hR2 : 30 ≤ RR.locals := by rw [hR]; exact Nat.le_refl _
  have hR3 : 0 ≤ RR.cells := by rw [hR]; exact Nat.le_refl _
  have hR4 : 0 ≤ RR.slots := by rw [hR]; exact Nat.le_refl _
  generalize s.heap = H at hw ⊢
  generalize ([] : List Loc) = locs at hw ⊢
  refine lv_aload_n hx hb d_Statement_init_0 rfl (lv_at hl 0 rfl) ?_
  refine W.objInit hx hb hown (hts _ zn2_57) (hts _ zn2_1) (hts _ zn2_2) rfl (by rw [hml]; exact hl.1) rfl d_Statement_init_1 (Nat.le_trans (by decide) hR1) (Nat.le_trans (Nat.le_of_ble_eq_true rfl) hR2) ?_
  refine W.eq (g2 := F0 m 4 ls []) rfl ?_
  refine lv_aload_n hx hb d_Statement_init_4 rfl (lv_at hl 0 rfl) ?_
  refine va_gets (C := "ScheduleCheck$Kind") (n := "STOP") (d := "LScheduleCheck$Kind;") (v := .ref (ad 1109)) hx hb ((G.2.2.2.1.1 rfl).2.2.1.1 9 (by decide)).1 hw.2.2.1 hown (hts _ zn2_58) (fun _ h => h) d_Statement_init_5 ?_
  refine zk_putr (ci := 6) G hw 32 0 (by decide) (by decide) zi_6 t_zd6 t_zd6_ok n_zd6 rfl rfl rfl (by decide) rfl zn2_59 (fun _ h => h) rfl  (x := 1109) (by decide) (t_zd6_ok 0 (by decide)) rfl rfl d_Statement_init_8 (fun H locs hw => ?_)
  exact zk_vret G hw hr hlocks hQ d_Statement_init_11
def zk_f_Statement_init_33 (σ : zs_S) : zs_S := (zs_wr σ 33 0 1109)
set_option maxHeartbeats 8000000 in
set_option maxRecDepth 100000 in
theorem zk_Statement_init_33 {l : Launch} {D : va_G} {cA : Nat → ClassId} {ad : Nat → Nat} {A : Nat → Prop} {b : Nat} {σ : zs_S} (hJ : zs_J ad) (had : ∀ o, 1 ≤ o → o ≤ zd_M 2 → ad o = b + (o - 1)) (hA : ∀ q, b ≤ q → A q) : Met l y_Statement_init (.code y_Statement_init prog_8_method_1_code 1 none :: zd_ww) { frames := 1, cells := 0, slots := 0, locals := 30 } (va_Pc [.ref (ad 33)] (zk_U 2 D cA ad A b 33 σ)) (zk_Q 2 D cA ad A b 33 (zk_f_Statement_init_33 σ)) 0 0 A := by
  refine Met.ofW (cc := prog_8_method_1_code) (maxL := 1) (ret := none) (by decide) rfl ?_
  intro p e s m args below meth c s₁ B hml hv
  obtain ⟨hargs, hP, hK, hD, hZ, hz, hd, hO⟩ := hv
  have G : zk_G 2 p s m args c prog_8_method_1_code 1 "ScheduleCheck$Statement" D cA ad A b := ⟨⟨B.exec, B.bytes, hml, findClass_of_methodNamed B.named, fun w h => atoms_spec B.pre w (List.mem_cons_of_mem _ h)⟩, hK, hJ, hZ, had, hA, hO⟩
  have hw : zk_I 2 D cA ad A s b 33 σ s.heap [] := ⟨hP, hD, va_S.rf, hz, hd⟩
  have hx := G.1.1
  have hb := G.1.2.1
  have hown := G.1.2.2.2.1
  have hts := G.1.2.2.2.2
  have hr := B.returns
  have hlocks := B.notSynchronized
  have hin : meth.name = "<init>" := (name_of_methodNamed B.named B.method).1
  have he : entryFrame m args 1 = F0 m 0 ((lg_sl [.ref (ad 33)] ++ List.replicate (1 - (lg_sl [.ref (ad 33)]).length) Slot.unset).toArray) [] := by rw [hargs]; exact lg_entry_eq m _ 1
  have hl := lv_entry [.ref (ad 33)] (n := 1) (Nat.le_of_ble_eq_true rfl)
  rw [he]
  generalize (lg_sl [.ref (ad 33)] ++ List.replicate (1 - (lg_sl [.ref (ad 33)]).length) Slot.unset).toArray = ls at hl
  have hl : lv_has ls 1 [(0, .ref (ad 33))] := hl
  obtain ⟨RR, hR⟩ : ∃ z, z = (headSpec (.code y_Statement_init prog_8_method_1_code 1 none :: zd_ww) { frames := 1, cells := 0, slots := 0, locals := 30 }).room := ⟨_, rfl⟩
  rw [← hR]
  obtain ⟨QQ, hQ⟩ : ∃ z, z = MQ below (zk_Q 2 D cA ad A b 33 (zk_f_Statement_init_33 σ)) args s 0 0 A := ⟨_, rfl⟩
  rw [← hQ]
  have hR1 : 1 ≤ RR.frames := by rw [hR]; exact Nat.le_refl _
  have hR2 : 30 ≤ RR.locals := by rw [hR]; exact Nat.le_refl _
  have hR3 : 0 ≤ RR.cells := by rw [hR]; exact Nat.le_refl _
  have hR4 : 0 ≤ RR.slots := by rw [hR]; exact Nat.le_refl _
  generalize s.heap = H at hw ⊢
  generalize ([] : List Loc) = locs at hw ⊢
  refine lv_aload_n hx hb d_Statement_init_0 rfl (lv_at hl 0 rfl) ?_
  refine W.objInit hx hb hown (hts _ zn2_57) (hts _ zn2_1) (hts _ zn2_2) rfl (by rw [hml]; exact hl.1) rfl d_Statement_init_1 (Nat.le_trans (by decide) hR1) (Nat.le_trans (Nat.le_of_ble_eq_true rfl) hR2) ?_
  refine W.eq (g2 := F0 m 4 ls []) rfl ?_
  refine lv_aload_n hx hb d_Statement_init_4 rfl (lv_at hl 0 rfl) ?_
  refine va_gets (C := "ScheduleCheck$Kind") (n := "STOP") (d := "LScheduleCheck$Kind;") (v := .ref (ad 1109)) hx hb ((G.2.2.2.1.1 rfl).2.2.1.1 9 (by decide)).1 hw.2.2.1 hown (hts _ zn2_58) (fun _ h => h) d_Statement_init_5 ?_
  refine zk_putr (ci := 6) G hw 33 0 (by decide) (by decide) zi_6 t_zd6 t_zd6_ok n_zd6 rfl rfl rfl (by decide) rfl zn2_59 (fun _ h => h) rfl  (x := 1109) (by decide) (t_zd6_ok 0 (by decide)) rfl rfl d_Statement_init_8 (fun H locs hw => ?_)
  exact zk_vret G hw hr hlocks hQ d_Statement_init_11
def zk_f_Statement_init_34 (σ : zs_S) : zs_S := (zs_wr σ 34 0 1109)
set_option maxHeartbeats 8000000 in
set_option maxRecDepth 100000 in
theorem zk_Statement_init_34 {l : Launch} {D : va_G} {cA : Nat → ClassId} {ad : Nat → Nat} {A : Nat → Prop} {b : Nat} {σ : zs_S} (hJ : zs_J ad) (had : ∀ o, 1 ≤ o → o ≤ zd_M 2 → ad o = b + (o - 1)) (hA : ∀ q, b ≤ q → A q) : Met l y_Statement_init (.code y_Statement_init prog_8_method_1_code 1 none :: zd_ww) { frames := 1, cells := 0, slots := 0, locals := 30 } (va_Pc [.ref (ad 34)] (zk_U 2 D cA ad A b 34 σ)) (zk_Q 2 D cA ad A b 34 (zk_f_Statement_init_34 σ)) 0 0 A := by
  refine Met.ofW (cc := prog_8_method_1_code) (maxL := 1) (ret := none) (by decide) rfl ?_
  intro p e s m args below meth c s₁ B hml hv
  obtain ⟨hargs, hP, hK, hD, hZ, hz, hd, hO⟩ := hv
  have G : zk_G 2 p s m args c prog_8_method_1_code 1 "ScheduleCheck$Statement" D cA ad A b := ⟨⟨B.exec, B.bytes, hml, findClass_of_methodNamed B.named, fun w h => atoms_spec B.pre w (List.mem_cons_of_mem _ h)⟩, hK, hJ, hZ, had, hA, hO⟩
  have hw : zk_I 2 D cA ad A s b 34 σ s.heap [] := ⟨hP, hD, va_S.rf, hz, hd⟩
  have hx := G.1.1
  have hb := G.1.2.1
  have hown := G.1.2.2.2.1
  have hts := G.1.2.2.2.2
  have hr := B.returns
  have hlocks := B.notSynchronized
  have hin : meth.name = "<init>" := (name_of_methodNamed B.named B.method).1
  have he : entryFrame m args 1 = F0 m 0 ((lg_sl [.ref (ad 34)] ++ List.replicate (1 - (lg_sl [.ref (ad 34)]).length) Slot.unset).toArray) [] := by rw [hargs]; exact lg_entry_eq m _ 1
  have hl := lv_entry [.ref (ad 34)] (n := 1) (Nat.le_of_ble_eq_true rfl)
  rw [he]
  generalize (lg_sl [.ref (ad 34)] ++ List.replicate (1 - (lg_sl [.ref (ad 34)]).length) Slot.unset).toArray = ls at hl
  have hl : lv_has ls 1 [(0, .ref (ad 34))] := hl
  obtain ⟨RR, hR⟩ : ∃ z, z = (headSpec (.code y_Statement_init prog_8_method_1_code 1 none :: zd_ww) { frames := 1, cells := 0, slots := 0, locals := 30 }).room := ⟨_, rfl⟩
  rw [← hR]
  obtain ⟨QQ, hQ⟩ : ∃ z, z = MQ below (zk_Q 2 D cA ad A b 34 (zk_f_Statement_init_34 σ)) args s 0 0 A := ⟨_, rfl⟩
  rw [← hQ]
  have hR1 : 1 ≤ RR.frames := by rw [hR]; exact Nat.le_refl _
  have hR2 : 30 ≤ RR.locals := by rw [hR]; exact Nat.le_refl _
  have hR3 : 0 ≤ RR.cells := by rw [hR]; exact Nat.le_refl _
  have hR4 : 0 ≤ RR.slots := by rw [hR]; exact Nat.le_refl _
  generalize s.heap = H at hw ⊢
  generalize ([] : List Loc) = locs at hw ⊢
  refine lv_aload_n hx hb d_Statement_init_0 rfl (lv_at hl 0 rfl) ?_
  refine W.objInit hx hb hown (hts _ zn2_57) (hts _ zn2_1) (hts _ zn2_2) rfl (by rw [hml]; exact hl.1) rfl d_Statement_init_1 (Nat.le_trans (by decide) hR1) (Nat.le_trans (Nat.le_of_ble_eq_true rfl) hR2) ?_
  refine W.eq (g2 := F0 m 4 ls []) rfl ?_
  refine lv_aload_n hx hb d_Statement_init_4 rfl (lv_at hl 0 rfl) ?_
  refine va_gets (C := "ScheduleCheck$Kind") (n := "STOP") (d := "LScheduleCheck$Kind;") (v := .ref (ad 1109)) hx hb ((G.2.2.2.1.1 rfl).2.2.1.1 9 (by decide)).1 hw.2.2.1 hown (hts _ zn2_58) (fun _ h => h) d_Statement_init_5 ?_
  refine zk_putr (ci := 6) G hw 34 0 (by decide) (by decide) zi_6 t_zd6 t_zd6_ok n_zd6 rfl rfl rfl (by decide) rfl zn2_59 (fun _ h => h) rfl  (x := 1109) (by decide) (t_zd6_ok 0 (by decide)) rfl rfl d_Statement_init_8 (fun H locs hw => ?_)
  exact zk_vret G hw hr hlocks hQ d_Statement_init_11
def zk_f_Statement_init_35 (σ : zs_S) : zs_S := (zs_wr σ 35 0 1109)
set_option maxHeartbeats 8000000 in
set_option maxRecDepth 100000 in
theorem zk_Statement_init_35 {l : Launch} {D : va_G} {cA : Nat → ClassId} {ad : Nat → Nat} {A : Nat → Prop} {b : Nat} {σ : zs_S} (hJ : zs_J ad) (had : ∀ o, 1 ≤ o → o ≤ zd_M 2 → ad o = b + (o - 1)) (hA : ∀ q, b ≤ q → A q) : Met l y_Statement_init (.code y_Statement_init prog_8_method_1_code 1 none :: zd_ww) { frames := 1, cells := 0, slots := 0, locals := 30 } (va_Pc [.ref (ad 35)] (zk_U 2 D cA ad A b 35 σ)) (zk_Q 2 D cA ad A b 35 (zk_f_Statement_init_35 σ)) 0 0 A := by
  refine Met.ofW (cc := prog_8_method_1_code) (maxL := 1) (ret := none) (by decide) rfl ?_
  intro p e s m args below meth c s₁ B hml hv
  obtain ⟨hargs, hP, hK, hD, hZ, hz, hd, hO⟩ := hv
  have G : zk_G 2 p s m args c prog_8_method_1_code 1 "ScheduleCheck$Statement" D cA ad A b := ⟨⟨B.exec, B.bytes, hml, findClass_of_methodNamed B.named, fun w h => atoms_spec B.pre w (List.mem_cons_of_mem _ h)⟩, hK, hJ, hZ, had, hA, hO⟩
  have hw : zk_I 2 D cA ad A s b 35 σ s.heap [] := ⟨hP, hD, va_S.rf, hz, hd⟩
  have hx := G.1.1
  have hb := G.1.2.1
  have hown := G.1.2.2.2.1
  have hts := G.1.2.2.2.2
  have hr := B.returns
  have hlocks := B.notSynchronized
  have hin : meth.name = "<init>" := (name_of_methodNamed B.named B.method).1
  have he : entryFrame m args 1 = F0 m 0 ((lg_sl [.ref (ad 35)] ++ List.replicate (1 - (lg_sl [.ref (ad 35)]).length) Slot.unset).toArray) [] := by rw [hargs]; exact lg_entry_eq m _ 1
  have hl := lv_entry [.ref (ad 35)] (n := 1) (Nat.le_of_ble_eq_true rfl)
  rw [he]
  generalize (lg_sl [.ref (ad 35)] ++ List.replicate (1 - (lg_sl [.ref (ad 35)]).length) Slot.unset).toArray = ls at hl
  have hl : lv_has ls 1 [(0, .ref (ad 35))] := hl
  obtain ⟨RR, hR⟩ : ∃ z, z = (headSpec (.code y_Statement_init prog_8_method_1_code 1 none :: zd_ww) { frames := 1, cells := 0, slots := 0, locals := 30 }).room := ⟨_, rfl⟩
  rw [← hR]
  obtain ⟨QQ, hQ⟩ : ∃ z, z = MQ below (zk_Q 2 D cA ad A b 35 (zk_f_Statement_init_35 σ)) args s 0 0 A := ⟨_, rfl⟩
  rw [← hQ]
  have hR1 : 1 ≤ RR.frames := by rw [hR]; exact Nat.le_refl _
  have hR2 : 30 ≤ RR.locals := by rw [hR]; exact Nat.le_refl _
  have hR3 : 0 ≤ RR.cells := by rw [hR]; exact Nat.le_refl _
  have hR4 : 0 ≤ RR.slots := by rw [hR]; exact Nat.le_refl _
  generalize s.heap = H at hw ⊢
  generalize ([] : List Loc) = locs at hw ⊢
  refine lv_aload_n hx hb d_Statement_init_0 rfl (lv_at hl 0 rfl) ?_
  refine W.objInit hx hb hown (hts _ zn2_57) (hts _ zn2_1) (hts _ zn2_2) rfl (by rw [hml]; exact hl.1) rfl d_Statement_init_1 (Nat.le_trans (by decide) hR1) (Nat.le_trans (Nat.le_of_ble_eq_true rfl) hR2) ?_
  refine W.eq (g2 := F0 m 4 ls []) rfl ?_
  refine lv_aload_n hx hb d_Statement_init_4 rfl (lv_at hl 0 rfl) ?_
  refine va_gets (C := "ScheduleCheck$Kind") (n := "STOP") (d := "LScheduleCheck$Kind;") (v := .ref (ad 1109)) hx hb ((G.2.2.2.1.1 rfl).2.2.1.1 9 (by decide)).1 hw.2.2.1 hown (hts _ zn2_58) (fun _ h => h) d_Statement_init_5 ?_
  refine zk_putr (ci := 6) G hw 35 0 (by decide) (by decide) zi_6 t_zd6 t_zd6_ok n_zd6 rfl rfl rfl (by decide) rfl zn2_59 (fun _ h => h) rfl  (x := 1109) (by decide) (t_zd6_ok 0 (by decide)) rfl rfl d_Statement_init_8 (fun H locs hw => ?_)
  exact zk_vret G hw hr hlocks hQ d_Statement_init_11
def zk_f_Statement_init_36 (σ : zs_S) : zs_S := (zs_wr σ 36 0 1109)
set_option maxHeartbeats 8000000 in
set_option maxRecDepth 100000 in
theorem zk_Statement_init_36 {l : Launch} {D : va_G} {cA : Nat → ClassId} {ad : Nat → Nat} {A : Nat → Prop} {b : Nat} {σ : zs_S} (hJ : zs_J ad) (had : ∀ o, 1 ≤ o → o ≤ zd_M 2 → ad o = b + (o - 1)) (hA : ∀ q, b ≤ q → A q) : Met l y_Statement_init (.code y_Statement_init prog_8_method_1_code 1 none :: zd_ww) { frames := 1, cells := 0, slots := 0, locals := 30 } (va_Pc [.ref (ad 36)] (zk_U 2 D cA ad A b 36 σ)) (zk_Q 2 D cA ad A b 36 (zk_f_Statement_init_36 σ)) 0 0 A := by
  refine Met.ofW (cc := prog_8_method_1_code) (maxL := 1) (ret := none) (by decide) rfl ?_
  intro p e s m args below meth c s₁ B hml hv
  obtain ⟨hargs, hP, hK, hD, hZ, hz, hd, hO⟩ := hv
  have G : zk_G 2 p s m args c prog_8_method_1_code 1 "ScheduleCheck$Statement" D cA ad A b := ⟨⟨B.exec, B.bytes, hml, findClass_of_methodNamed B.named, fun w h => atoms_spec B.pre w (List.mem_cons_of_mem _ h)⟩, hK, hJ, hZ, had, hA, hO⟩
  have hw : zk_I 2 D cA ad A s b 36 σ s.heap [] := ⟨hP, hD, va_S.rf, hz, hd⟩
  have hx := G.1.1
  have hb := G.1.2.1
  have hown := G.1.2.2.2.1
  have hts := G.1.2.2.2.2
  have hr := B.returns
  have hlocks := B.notSynchronized
  have hin : meth.name = "<init>" := (name_of_methodNamed B.named B.method).1
  have he : entryFrame m args 1 = F0 m 0 ((lg_sl [.ref (ad 36)] ++ List.replicate (1 - (lg_sl [.ref (ad 36)]).length) Slot.unset).toArray) [] := by rw [hargs]; exact lg_entry_eq m _ 1
  have hl := lv_entry [.ref (ad 36)] (n := 1) (Nat.le_of_ble_eq_true rfl)
  rw [he]
  generalize (lg_sl [.ref (ad 36)] ++ List.replicate (1 - (lg_sl [.ref (ad 36)]).length) Slot.unset).toArray = ls at hl
  have hl : lv_has ls 1 [(0, .ref (ad 36))] := hl
  obtain ⟨RR, hR⟩ : ∃ z, z = (headSpec (.code y_Statement_init prog_8_method_1_code 1 none :: zd_ww) { frames := 1, cells := 0, slots := 0, locals := 30 }).room := ⟨_, rfl⟩
  rw [← hR]
  obtain ⟨QQ, hQ⟩ : ∃ z, z = MQ below (zk_Q 2 D cA ad A b 36 (zk_f_Statement_init_36 σ)) args s 0 0 A := ⟨_, rfl⟩
  rw [← hQ]
  have hR1 : 1 ≤ RR.frames := by rw [hR]; exact Nat.le_refl _
  have hR2 : 30 ≤ RR.locals := by rw [hR]; exact Nat.le_refl _
  have hR3 : 0 ≤ RR.cells := by rw [hR]; exact Nat.le_refl _
  have hR4 : 0 ≤ RR.slots := by rw [hR]; exact Nat.le_refl _
  generalize s.heap = H at hw ⊢
  generalize ([] : List Loc) = locs at hw ⊢
  refine lv_aload_n hx hb d_Statement_init_0 rfl (lv_at hl 0 rfl) ?_
  refine W.objInit hx hb hown (hts _ zn2_57) (hts _ zn2_1) (hts _ zn2_2) rfl (by rw [hml]; exact hl.1) rfl d_Statement_init_1 (Nat.le_trans (by decide) hR1) (Nat.le_trans (Nat.le_of_ble_eq_true rfl) hR2) ?_
  refine W.eq (g2 := F0 m 4 ls []) rfl ?_
  refine lv_aload_n hx hb d_Statement_init_4 rfl (lv_at hl 0 rfl) ?_
  refine va_gets (C := "ScheduleCheck$Kind") (n := "STOP") (d := "LScheduleCheck$Kind;") (v := .ref (ad 1109)) hx hb ((G.2.2.2.1.1 rfl).2.2.1.1 9 (by decide)).1 hw.2.2.1 hown (hts _ zn2_58) (fun _ h => h) d_Statement_init_5 ?_
  refine zk_putr (ci := 6) G hw 36 0 (by decide) (by decide) zi_6 t_zd6 t_zd6_ok n_zd6 rfl rfl rfl (by decide) rfl zn2_59 (fun _ h => h) rfl  (x := 1109) (by decide) (t_zd6_ok 0 (by decide)) rfl rfl d_Statement_init_8 (fun H locs hw => ?_)
  exact zk_vret G hw hr hlocks hQ d_Statement_init_11
def zk_f_Statement_init_37 (σ : zs_S) : zs_S := (zs_wr σ 37 0 1109)
set_option maxHeartbeats 8000000 in
set_option maxRecDepth 100000 in
theorem zk_Statement_init_37 {l : Launch} {D : va_G} {cA : Nat → ClassId} {ad : Nat → Nat} {A : Nat → Prop} {b : Nat} {σ : zs_S} (hJ : zs_J ad) (had : ∀ o, 1 ≤ o → o ≤ zd_M 2 → ad o = b + (o - 1)) (hA : ∀ q, b ≤ q → A q) : Met l y_Statement_init (.code y_Statement_init prog_8_method_1_code 1 none :: zd_ww) { frames := 1, cells := 0, slots := 0, locals := 30 } (va_Pc [.ref (ad 37)] (zk_U 2 D cA ad A b 37 σ)) (zk_Q 2 D cA ad A b 37 (zk_f_Statement_init_37 σ)) 0 0 A := by
  refine Met.ofW (cc := prog_8_method_1_code) (maxL := 1) (ret := none) (by decide) rfl ?_
  intro p e s m args below meth c s₁ B hml hv
  obtain ⟨hargs, hP, hK, hD, hZ, hz, hd, hO⟩ := hv
  have G : zk_G 2 p s m args c prog_8_method_1_code 1 "ScheduleCheck$Statement" D cA ad A b := ⟨⟨B.exec, B.bytes, hml, findClass_of_methodNamed B.named, fun w h => atoms_spec B.pre w (List.mem_cons_of_mem _ h)⟩, hK, hJ, hZ, had, hA, hO⟩
  have hw : zk_I 2 D cA ad A s b 37 σ s.heap [] := ⟨hP, hD, va_S.rf, hz, hd⟩
  have hx := G.1.1
  have hb := G.1.2.1
  have hown := G.1.2.2.2.1
  have hts := G.1.2.2.2.2
  have hr := B.returns
  have hlocks := B.notSynchronized
  have hin : meth.name = "<init>" := (name_of_methodNamed B.named B.method).1
  have he : entryFrame m args 1 = F0 m 0 ((lg_sl [.ref (ad 37)] ++ List.replicate (1 - (lg_sl [.ref (ad 37)]).length) Slot.unset).toArray) [] := by rw [hargs]; exact lg_entry_eq m _ 1
  have hl := lv_entry [.ref (ad 37)] (n := 1) (Nat.le_of_ble_eq_true rfl)
  rw [he]
  generalize (lg_sl [.ref (ad 37)] ++ List.replicate (1 - (lg_sl [.ref (ad 37)]).length) Slot.unset).toArray = ls at hl
  have hl : lv_has ls 1 [(0, .ref (ad 37))] := hl
  obtain ⟨RR, hR⟩ : ∃ z, z = (headSpec (.code y_Statement_init prog_8_method_1_code 1 none :: zd_ww) { frames := 1, cells := 0, slots := 0, locals := 30 }).room := ⟨_, rfl⟩
  rw [← hR]
  obtain ⟨QQ, hQ⟩ : ∃ z, z = MQ below (zk_Q 2 D cA ad A b 37 (zk_f_Statement_init_37 σ)) args s 0 0 A := ⟨_, rfl⟩
  rw [← hQ]
  have hR1 : 1 ≤ RR.frames := by rw [hR]; exact Nat.le_refl _
  have hR2 : 30 ≤ RR.locals := by rw [hR]; exact Nat.le_refl _
  have hR3 : 0 ≤ RR.cells := by rw [hR]; exact Nat.le_refl _
  have hR4 : 0 ≤ RR.slots := by rw [hR]; exact Nat.le_refl _
  generalize s.heap = H at hw ⊢
  generalize ([] : List Loc) = locs at hw ⊢
  refine lv_aload_n hx hb d_Statement_init_0 rfl (lv_at hl 0 rfl) ?_
  refine W.objInit hx hb hown (hts _ zn2_57) (hts _ zn2_1) (hts _ zn2_2) rfl (by rw [hml]; exact hl.1) rfl d_Statement_init_1 (Nat.le_trans (by decide) hR1) (Nat.le_trans (Nat.le_of_ble_eq_true rfl) hR2) ?_
  refine W.eq (g2 := F0 m 4 ls []) rfl ?_
  refine lv_aload_n hx hb d_Statement_init_4 rfl (lv_at hl 0 rfl) ?_
  refine va_gets (C := "ScheduleCheck$Kind") (n := "STOP") (d := "LScheduleCheck$Kind;") (v := .ref (ad 1109)) hx hb ((G.2.2.2.1.1 rfl).2.2.1.1 9 (by decide)).1 hw.2.2.1 hown (hts _ zn2_58) (fun _ h => h) d_Statement_init_5 ?_
  refine zk_putr (ci := 6) G hw 37 0 (by decide) (by decide) zi_6 t_zd6 t_zd6_ok n_zd6 rfl rfl rfl (by decide) rfl zn2_59 (fun _ h => h) rfl  (x := 1109) (by decide) (t_zd6_ok 0 (by decide)) rfl rfl d_Statement_init_8 (fun H locs hw => ?_)
  exact zk_vret G hw hr hlocks hQ d_Statement_init_11
def zk_f_Statement_init_38 (σ : zs_S) : zs_S := (zs_wr σ 38 0 1109)
set_option maxHeartbeats 8000000 in
set_option maxRecDepth 100000 in
theorem zk_Statement_init_38 {l : Launch} {D : va_G} {cA : Nat → ClassId} {ad : Nat → Nat} {A : Nat → Prop} {b : Nat} {σ : zs_S} (hJ : zs_J ad) (had : ∀ o, 1 ≤ o → o ≤ zd_M 2 → ad o = b + (o - 1)) (hA : ∀ q, b ≤ q → A q) : Met l y_Statement_init (.code y_Statement_init prog_8_method_1_code 1 none :: zd_ww) { frames := 1, cells := 0, slots := 0, locals := 30 } (va_Pc [.ref (ad 38)] (zk_U 2 D cA ad A b 38 σ)) (zk_Q 2 D cA ad A b 38 (zk_f_Statement_init_38 σ)) 0 0 A := by
  refine Met.ofW (cc := prog_8_method_1_code) (maxL := 1) (ret := none) (by decide) rfl ?_
  intro p e s m args below meth c s₁ B hml hv
  obtain ⟨hargs, hP, hK, hD, hZ, hz, hd, hO⟩ := hv
  have G : zk_G 2 p s m args c prog_8_method_1_code 1 "ScheduleCheck$Statement" D cA ad A b := ⟨⟨B.exec, B.bytes, hml, findClass_of_methodNamed B.named, fun w h => atoms_spec B.pre w (List.mem_cons_of_mem _ h)⟩, hK, hJ, hZ, had, hA, hO⟩
  have hw : zk_I 2 D cA ad A s b 38 σ s.heap [] := ⟨hP, hD, va_S.rf, hz, hd⟩
  have hx := G.1.1
  have hb := G.1.2.1
  have hown := G.1.2.2.2.1
  have hts := G.1.2.2.2.2
  have hr := B.returns
  have hlocks := B.notSynchronized
  have hin : meth.name = "<init>" := (name_of_methodNamed B.named B.method).1
  have he : entryFrame m args 1 = F0 m 0 ((lg_sl [.ref (ad 38)] ++ List.replicate (1 - (lg_sl [.ref (ad 38)]).length) Slot.unset).toArray) [] := by rw [hargs]; exact lg_entry_eq m _ 1
  have hl := lv_entry [.ref (ad 38)] (n := 1) (Nat.le_of_ble_eq_true rfl)
  rw [he]
  generalize (lg_sl [.ref (ad 38)] ++ List.replicate (1 - (lg_sl [.ref (ad 38)]).length) Slot.unset).toArray = ls at hl
  have hl : lv_has ls 1 [(0, .ref (ad 38))] := hl
  obtain ⟨RR, hR⟩ : ∃ z, z = (headSpec (.code y_Statement_init prog_8_method_1_code 1 none :: zd_ww) { frames := 1, cells := 0, slots := 0, locals := 30 }).room := ⟨_, rfl⟩
  rw [← hR]
  obtain ⟨QQ, hQ⟩ : ∃ z, z = MQ below (zk_Q 2 D cA ad A b 38 (zk_f_Statement_init_38 σ)) args s 0 0 A := ⟨_, rfl⟩
  rw [← hQ]
  have hR1 : 1 ≤ RR.frames := by rw [hR]; exact Nat.le_refl _
  have hR2 : 30 ≤ RR.locals := by rw [hR]; exact Nat.le_refl _
  have hR3 : 0 ≤ RR.cells := by rw [hR]; exact Nat.le_refl _
  have hR4 : 0 ≤ RR.slots := by rw [hR]; exact Nat.le_refl _
  generalize s.heap = H at hw ⊢
  generalize ([] : List Loc) = locs at hw ⊢
  refine lv_aload_n hx hb d_Statement_init_0 rfl (lv_at hl 0 rfl) ?_
  refine W.objInit hx hb hown (hts _ zn2_57) (hts _ zn2_1) (hts _ zn2_2) rfl (by rw [hml]; exact hl.1) rfl d_Statement_init_1 (Nat.le_trans (by decide) hR1) (Nat.le_trans (Nat.le_of_ble_eq_true rfl) hR2) ?_
  refine W.eq (g2 := F0 m 4 ls []) rfl ?_
  refine lv_aload_n hx hb d_Statement_init_4 rfl (lv_at hl 0 rfl) ?_
  refine va_gets (C := "ScheduleCheck$Kind") (n := "STOP") (d := "LScheduleCheck$Kind;") (v := .ref (ad 1109)) hx hb ((G.2.2.2.1.1 rfl).2.2.1.1 9 (by decide)).1 hw.2.2.1 hown (hts _ zn2_58) (fun _ h => h) d_Statement_init_5 ?_
  refine zk_putr (ci := 6) G hw 38 0 (by decide) (by decide) zi_6 t_zd6 t_zd6_ok n_zd6 rfl rfl rfl (by decide) rfl zn2_59 (fun _ h => h) rfl  (x := 1109) (by decide) (t_zd6_ok 0 (by decide)) rfl rfl d_Statement_init_8 (fun H locs hw => ?_)
  exact zk_vret G hw hr hlocks hQ d_Statement_init_11
def zk_f_Statement_init_39 (σ : zs_S) : zs_S := (zs_wr σ 39 0 1109)
set_option maxHeartbeats 8000000 in
set_option maxRecDepth 100000 in
theorem zk_Statement_init_39 {l : Launch} {D : va_G} {cA : Nat → ClassId} {ad : Nat → Nat} {A : Nat → Prop} {b : Nat} {σ : zs_S} (hJ : zs_J ad) (had : ∀ o, 1 ≤ o → o ≤ zd_M 2 → ad o = b + (o - 1)) (hA : ∀ q, b ≤ q → A q) : Met l y_Statement_init (.code y_Statement_init prog_8_method_1_code 1 none :: zd_ww) { frames := 1, cells := 0, slots := 0, locals := 30 } (va_Pc [.ref (ad 39)] (zk_U 2 D cA ad A b 39 σ)) (zk_Q 2 D cA ad A b 39 (zk_f_Statement_init_39 σ)) 0 0 A := by
  refine Met.ofW (cc := prog_8_method_1_code) (maxL := 1) (ret := none) (by decide) rfl ?_
  intro p e s m args below meth c s₁ B hml hv
  obtain ⟨hargs, hP, hK, hD, hZ, hz, hd, hO⟩ := hv
  have G : zk_G 2 p s m args c prog_8_method_1_code 1 "ScheduleCheck$Statement" D cA ad A b := ⟨⟨B.exec, B.bytes, hml, findClass_of_methodNamed B.named, fun w h => atoms_spec B.pre w (List.mem_cons_of_mem _ h)⟩, hK, hJ, hZ, had, hA, hO⟩
  have hw : zk_I 2 D cA ad A s b 39 σ s.heap [] := ⟨hP, hD, va_S.rf, hz, hd⟩
  have hx := G.1.1
  have hb := G.1.2.1
  have hown := G.1.2.2.2.1
  have hts := G.1.2.2.2.2
  have hr := B.returns
  have hlocks := B.notSynchronized
  have hin : meth.name = "<init>" := (name_of_methodNamed B.named B.method).1
  have he : entryFrame m args 1 = F0 m 0 ((lg_sl [.ref (ad 39)] ++ List.replicate (1 - (lg_sl [.ref (ad 39)]).length) Slot.unset).toArray) [] := by rw [hargs]; exact lg_entry_eq m _ 1
  have hl := lv_entry [.ref (ad 39)] (n := 1) (Nat.le_of_ble_eq_true rfl)
  rw [he]
  generalize (lg_sl [.ref (ad 39)] ++ List.replicate (1 - (lg_sl [.ref (ad 39)]).length) Slot.unset).toArray = ls at hl
  have hl : lv_has ls 1 [(0, .ref (ad 39))] := hl
  obtain ⟨RR, hR⟩ : ∃ z, z = (headSpec (.code y_Statement_init prog_8_method_1_code 1 none :: zd_ww) { frames := 1, cells := 0, slots := 0, locals := 30 }).room := ⟨_, rfl⟩
  rw [← hR]
  obtain ⟨QQ, hQ⟩ : ∃ z, z = MQ below (zk_Q 2 D cA ad A b 39 (zk_f_Statement_init_39 σ)) args s 0 0 A := ⟨_, rfl⟩
  rw [← hQ]
  have hR1 : 1 ≤ RR.frames := by rw [hR]; exact Nat.le_refl _
  have hR2 : 30 ≤ RR.locals := by rw [hR]; exact Nat.le_refl _
  have hR3 : 0 ≤ RR.cells := by rw [hR]; exact Nat.le_refl _
  have hR4 : 0 ≤ RR.slots := by rw [hR]; exact Nat.le_refl _
  generalize s.heap = H at hw ⊢
  generalize ([] : List Loc) = locs at hw ⊢
  refine lv_aload_n hx hb d_Statement_init_0 rfl (lv_at hl 0 rfl) ?_
  refine W.objInit hx hb hown (hts _ zn2_57) (hts _ zn2_1) (hts _ zn2_2) rfl (by rw [hml]; exact hl.1) rfl d_Statement_init_1 (Nat.le_trans (by decide) hR1) (Nat.le_trans (Nat.le_of_ble_eq_true rfl) hR2) ?_
  refine W.eq (g2 := F0 m 4 ls []) rfl ?_
  refine lv_aload_n hx hb d_Statement_init_4 rfl (lv_at hl 0 rfl) ?_
  refine va_gets (C := "ScheduleCheck$Kind") (n := "STOP") (d := "LScheduleCheck$Kind;") (v := .ref (ad 1109)) hx hb ((G.2.2.2.1.1 rfl).2.2.1.1 9 (by decide)).1 hw.2.2.1 hown (hts _ zn2_58) (fun _ h => h) d_Statement_init_5 ?_
  refine zk_putr (ci := 6) G hw 39 0 (by decide) (by decide) zi_6 t_zd6 t_zd6_ok n_zd6 rfl rfl rfl (by decide) rfl zn2_59 (fun _ h => h) rfl  (x := 1109) (by decide) (t_zd6_ok 0 (by decide)) rfl rfl d_Statement_init_8 (fun H locs hw => ?_)
  exact zk_vret G hw hr hlocks hQ d_Statement_init_11
def zk_f_Statement_init_40 (σ : zs_S) : zs_S := (zs_wr σ 40 0 1109)
set_option maxHeartbeats 8000000 in
set_option maxRecDepth 100000 in
theorem zk_Statement_init_40 {l : Launch} {D : va_G} {cA : Nat → ClassId} {ad : Nat → Nat} {A : Nat → Prop} {b : Nat} {σ : zs_S} (hJ : zs_J ad) (had : ∀ o, 1 ≤ o → o ≤ zd_M 2 → ad o = b + (o - 1)) (hA : ∀ q, b ≤ q → A q) : Met l y_Statement_init (.code y_Statement_init prog_8_method_1_code 1 none :: zd_ww) { frames := 1, cells := 0, slots := 0, locals := 30 } (va_Pc [.ref (ad 40)] (zk_U 2 D cA ad A b 40 σ)) (zk_Q 2 D cA ad A b 40 (zk_f_Statement_init_40 σ)) 0 0 A := by
  refine Met.ofW (cc := prog_8_method_1_code) (maxL := 1) (ret := none) (by decide) rfl ?_
  intro p e s m args below meth c s₁ B hml hv
  obtain ⟨hargs, hP, hK, hD, hZ, hz, hd, hO⟩ := hv
  have G : zk_G 2 p s m args c prog_8_method_1_code 1 "ScheduleCheck$Statement" D cA ad A b := ⟨⟨B.exec, B.bytes, hml, findClass_of_methodNamed B.named, fun w h => atoms_spec B.pre w (List.mem_cons_of_mem _ h)⟩, hK, hJ, hZ, had, hA, hO⟩
  have hw : zk_I 2 D cA ad A s b 40 σ s.heap [] := ⟨hP, hD, va_S.rf, hz, hd⟩
  have hx := G.1.1
  have hb := G.1.2.1
  have hown := G.1.2.2.2.1
  have hts := G.1.2.2.2.2
  have hr := B.returns
  have hlocks := B.notSynchronized
  have hin : meth.name = "<init>" := (name_of_methodNamed B.named B.method).1
  have he : entryFrame m args 1 = F0 m 0 ((lg_sl [.ref (ad 40)] ++ List.replicate (1 - (lg_sl [.ref (ad 40)]).length) Slot.unset).toArray) [] := by rw [hargs]; exact lg_entry_eq m _ 1
  have hl := lv_entry [.ref (ad 40)] (n := 1) (Nat.le_of_ble_eq_true rfl)
  rw [he]
  generalize (lg_sl [.ref (ad 40)] ++ List.replicate (1 - (lg_sl [.ref (ad 40)]).length) Slot.unset).toArray = ls at hl
  have hl : lv_has ls 1 [(0, .ref (ad 40))] := hl
  obtain ⟨RR, hR⟩ : ∃ z, z = (headSpec (.code y_Statement_init prog_8_method_1_code 1 none :: zd_ww) { frames := 1, cells := 0, slots := 0, locals := 30 }).room := ⟨_, rfl⟩
  rw [← hR]
  obtain ⟨QQ, hQ⟩ : ∃ z, z = MQ below (zk_Q 2 D cA ad A b 40 (zk_f_Statement_init_40 σ)) args s 0 0 A := ⟨_, rfl⟩
  rw [← hQ]
  have hR1 : 1 ≤ RR.frames := by rw [hR]; exact Nat.le_refl _
  have hR2 : 30 ≤ RR.locals := by rw [hR]; exact Nat.le_refl _
  have hR3 : 0 ≤ RR.cells := by rw [hR]; exact Nat.le_refl _
  have hR4 : 0 ≤ RR.slots := by rw [hR]; exact Nat.le_refl _
  generalize s.heap = H at hw ⊢
  generalize ([] : List Loc) = locs at hw ⊢
  refine lv_aload_n hx hb d_Statement_init_0 rfl (lv_at hl 0 rfl) ?_
  refine W.objInit hx hb hown (hts _ zn2_57) (hts _ zn2_1) (hts _ zn2_2) rfl (by rw [hml]; exact hl.1) rfl d_Statement_init_1 (Nat.le_trans (by decide) hR1) (Nat.le_trans (Nat.le_of_ble_eq_true rfl) hR2) ?_
  refine W.eq (g2 := F0 m 4 ls []) rfl ?_
  refine lv_aload_n hx hb d_Statement_init_4 rfl (lv_at hl 0 rfl) ?_
  refine va_gets (C := "ScheduleCheck$Kind") (n := "STOP") (d := "LScheduleCheck$Kind;") (v := .ref (ad 1109)) hx hb ((G.2.2.2.1.1 rfl).2.2.1.1 9 (by decide)).1 hw.2.2.1 hown (hts _ zn2_58) (fun _ h => h) d_Statement_init_5 ?_
  refine zk_putr (ci := 6) G hw 40 0 (by decide) (by decide) zi_6 t_zd6 t_zd6_ok n_zd6 rfl rfl rfl (by decide) rfl zn2_59 (fun _ h => h) rfl  (x := 1109) (by decide) (t_zd6_ok 0 (by decide)) rfl rfl d_Statement_init_8 (fun H locs hw => ?_)
  exact zk_vret G hw hr hlocks hQ d_Statement_init_11
def zk_f_Statement_init_41 (σ : zs_S) : zs_S := (zs_wr σ 41 0 1109)
set_option maxHeartbeats 8000000 in
set_option maxRecDepth 100000 in
theorem zk_Statement_init_41 {l : Launch} {D : va_G} {cA : Nat → ClassId} {ad : Nat → Nat} {A : Nat → Prop} {b : Nat} {σ : zs_S} (hJ : zs_J ad) (had : ∀ o, 1 ≤ o → o ≤ zd_M 2 → ad o = b + (o - 1)) (hA : ∀ q, b ≤ q → A q) : Met l y_Statement_init (.code y_Statement_init prog_8_method_1_code 1 none :: zd_ww) { frames := 1, cells := 0, slots := 0, locals := 30 } (va_Pc [.ref (ad 41)] (zk_U 2 D cA ad A b 41 σ)) (zk_Q 2 D cA ad A b 41 (zk_f_Statement_init_41 σ)) 0 0 A := by
  refine Met.ofW (cc := prog_8_method_1_code) (maxL := 1) (ret := none) (by decide) rfl ?_
  intro p e s m args below meth c s₁ B hml hv
  obtain ⟨hargs, hP, hK, hD, hZ, hz, hd, hO⟩ := hv
  have G : zk_G 2 p s m args c prog_8_method_1_code 1 "ScheduleCheck$Statement" D cA ad A b := ⟨⟨B.exec, B.bytes, hml, findClass_of_methodNamed B.named, fun w h => atoms_spec B.pre w (List.mem_cons_of_mem _ h)⟩, hK, hJ, hZ, had, hA, hO⟩
  have hw : zk_I 2 D cA ad A s b 41 σ s.heap [] := ⟨hP, hD, va_S.rf, hz, hd⟩
  have hx := G.1.1
  have hb := G.1.2.1
  have hown := G.1.2.2.2.1
  have hts := G.1.2.2.2.2
  have hr := B.returns
  have hlocks := B.notSynchronized
  have hin : meth.name = "<init>" := (name_of_methodNamed B.named B.method).1
  have he : entryFrame m args 1 = F0 m 0 ((lg_sl [.ref (ad 41)] ++ List.replicate (1 - (lg_sl [.ref (ad 41)]).length) Slot.unset).toArray) [] := by rw [hargs]; exact lg_entry_eq m _ 1
  have hl := lv_entry [.ref (ad 41)] (n := 1) (Nat.le_of_ble_eq_true rfl)
  rw [he]
  generalize (lg_sl [.ref (ad 41)] ++ List.replicate (1 - (lg_sl [.ref (ad 41)]).length) Slot.unset).toArray = ls at hl
  have hl : lv_has ls 1 [(0, .ref (ad 41))] := hl
  obtain ⟨RR, hR⟩ : ∃ z, z = (headSpec (.code y_Statement_init prog_8_method_1_code 1 none :: zd_ww) { frames := 1, cells := 0, slots := 0, locals := 30 }).room := ⟨_, rfl⟩
  rw [← hR]
  obtain ⟨QQ, hQ⟩ : ∃ z, z = MQ below (zk_Q 2 D cA ad A b 41 (zk_f_Statement_init_41 σ)) args s 0 0 A := ⟨_, rfl⟩
  rw [← hQ]
  have hR1 : 1 ≤ RR.frames := by rw [hR]; exact Nat.le_refl _
  have hR2 : 30 ≤ RR.locals := by rw [hR]; exact Nat.le_refl _
  have hR3 : 0 ≤ RR.cells := by rw [hR]; exact Nat.le_refl _
  have hR4 : 0 ≤ RR.slots := by rw [hR]; exact Nat.le_refl _
  generalize s.heap = H at hw ⊢
  generalize ([] : List Loc) = locs at hw ⊢
  refine lv_aload_n hx hb d_Statement_init_0 rfl (lv_at hl 0 rfl) ?_
  refine W.objInit hx hb hown (hts _ zn2_57) (hts _ zn2_1) (hts _ zn2_2) rfl (by rw [hml]; exact hl.1) rfl d_Statement_init_1 (Nat.le_trans (by decide) hR1) (Nat.le_trans (Nat.le_of_ble_eq_true rfl) hR2) ?_
  refine W.eq (g2 := F0 m 4 ls []) rfl ?_
  refine lv_aload_n hx hb d_Statement_init_4 rfl (lv_at hl 0 rfl) ?_
  refine va_gets (C := "ScheduleCheck$Kind") (n := "STOP") (d := "LScheduleCheck$Kind;") (v := .ref (ad 1109)) hx hb ((G.2.2.2.1.1 rfl).2.2.1.1 9 (by decide)).1 hw.2.2.1 hown (hts _ zn2_58) (fun _ h => h) d_Statement_init_5 ?_
  refine zk_putr (ci := 6) G hw 41 0 (by decide) (by decide) zi_6 t_zd6 t_zd6_ok n_zd6 rfl rfl rfl (by decide) rfl zn2_59 (fun _ h => h) rfl  (x := 1109) (by decide) (t_zd6_ok 0 (by decide)) rfl rfl d_Statement_init_8 (fun H locs hw => ?_)
  exact zk_vret G hw hr hlocks hQ d_Statement_init_11
def zk_f_Statement_init_42 (σ : zs_S) : zs_S := (zs_wr σ 42 0 1109)
set_option maxHeartbeats 8000000 in
set_option maxRecDepth 100000 in
theorem zk_Statement_init_42 {l : Launch} {D : va_G} {cA : Nat → ClassId} {ad : Nat → Nat} {A : Nat → Prop} {b : Nat} {σ : zs_S} (hJ : zs_J ad) (had : ∀ o, 1 ≤ o → o ≤ zd_M 2 → ad o = b + (o - 1)) (hA : ∀ q, b ≤ q → A q) : Met l y_Statement_init (.code y_Statement_init prog_8_method_1_code 1 none :: zd_ww) { frames := 1, cells := 0, slots := 0, locals := 30 } (va_Pc [.ref (ad 42)] (zk_U 2 D cA ad A b 42 σ)) (zk_Q 2 D cA ad A b 42 (zk_f_Statement_init_42 σ)) 0 0 A := by
  refine Met.ofW (cc := prog_8_method_1_code) (maxL := 1) (ret := none) (by decide) rfl ?_
  intro p e s m args below meth c s₁ B hml hv
  obtain ⟨hargs, hP, hK, hD, hZ, hz, hd, hO⟩ := hv
  have G : zk_G 2 p s m args c prog_8_method_1_code 1 "ScheduleCheck$Statement" D cA ad A b := ⟨⟨B.exec, B.bytes, hml, findClass_of_methodNamed B.named, fun w h => atoms_spec B.pre w (List.mem_cons_of_mem _ h)⟩, hK, hJ, hZ, had, hA, hO⟩
  have hw : zk_I 2 D cA ad A s b 42 σ s.heap [] := ⟨hP, hD, va_S.rf, hz, hd⟩
  have hx := G.1.1
  have hb := G.1.2.1
  have hown := G.1.2.2.2.1
  have hts := G.1.2.2.2.2
  have hr := B.returns
  have hlocks := B.notSynchronized
  have hin : meth.name = "<init>" := (name_of_methodNamed B.named B.method).1
  have he : entryFrame m args 1 = F0 m 0 ((lg_sl [.ref (ad 42)] ++ List.replicate (1 - (lg_sl [.ref (ad 42)]).length) Slot.unset).toArray) [] := by rw [hargs]; exact lg_entry_eq m _ 1
  have hl := lv_entry [.ref (ad 42)] (n := 1) (Nat.le_of_ble_eq_true rfl)
  rw [he]
  generalize (lg_sl [.ref (ad 42)] ++ List.replicate (1 - (lg_sl [.ref (ad 42)]).length) Slot.unset).toArray = ls at hl
  have hl : lv_has ls 1 [(0, .ref (ad 42))] := hl
  obtain ⟨RR, hR⟩ : ∃ z, z = (headSpec (.code y_Statement_init prog_8_method_1_code 1 none :: zd_ww) { frames := 1, cells := 0, slots := 0, locals := 30 }).room := ⟨_, rfl⟩
  rw [← hR]
  obtain ⟨QQ, hQ⟩ : ∃ z, z = MQ below (zk_Q 2 D cA ad A b 42 (zk_f_Statement_init_42 σ)) args s 0 0 A := ⟨_, rfl⟩
  rw [← hQ]
  have hR1 : 1 ≤ RR.frames := by rw [hR]; exact Nat.le_refl _
  have hR2 : 30 ≤ RR.locals := by rw [hR]; exact Nat.le_refl _
  have hR3 : 0 ≤ RR.cells := by rw [hR]; exact Nat.le_refl _
  have hR4 : 0 ≤ RR.slots := by rw [hR]; exact Nat.le_refl _
  generalize s.heap = H at hw ⊢
  generalize ([] : List Loc) = locs at hw ⊢
  refine lv_aload_n hx hb d_Statement_init_0 rfl (lv_at hl 0 rfl) ?_
  refine W.objInit hx hb hown (hts _ zn2_57) (hts _ zn2_1) (hts _ zn2_2) rfl (by rw [hml]; exact hl.1) rfl d_Statement_init_1 (Nat.le_trans (by decide) hR1) (Nat.le_trans (Nat.le_of_ble_eq_true rfl) hR2) ?_
  refine W.eq (g2 := F0 m 4 ls []) rfl ?_
  refine lv_aload_n hx hb d_Statement_init_4 rfl (lv_at hl 0 rfl) ?_
  refine va_gets (C := "ScheduleCheck$Kind") (n := "STOP") (d := "LScheduleCheck$Kind;") (v := .ref (ad 1109)) hx hb ((G.2.2.2.1.1 rfl).2.2.1.1 9 (by decide)).1 hw.2.2.1 hown (hts _ zn2_58) (fun _ h => h) d_Statement_init_5 ?_
  refine zk_putr (ci := 6) G hw 42 0 (by decide) (by decide) zi_6 t_zd6 t_zd6_ok n_zd6 rfl rfl rfl (by decide) rfl zn2_59 (fun _ h => h) rfl  (x := 1109) (by decide) (t_zd6_ok 0 (by decide)) rfl rfl d_Statement_init_8 (fun H locs hw => ?_)
  exact zk_vret G hw hr hlocks hQ d_Statement_init_11
def zk_f_Statement_init_43 (σ : zs_S) : zs_S := (zs_wr σ 43 0 1109)
set_option maxHeartbeats 8000000 in
set_option maxRecDepth 100000 in
theorem zk_Statement_init_43 {l : Launch} {D : va_G} {cA : Nat → ClassId} {ad : Nat → Nat} {A : Nat → Prop} {b : Nat} {σ : zs_S} (hJ : zs_J ad) (had : ∀ o, 1 ≤ o → o ≤ zd_M 2 → ad o = b + (o - 1)) (hA : ∀ q, b ≤ q → A q) : Met l y_Statement_init (.code y_Statement_init prog_8_method_1_code 1 none :: zd_ww) { frames := 1, cells := 0, slots := 0, locals := 30 } (va_Pc [.ref (ad 43)] (zk_U 2 D cA ad A b 43 σ)) (zk_Q 2 D cA ad A b 43 (zk_f_Statement_init_43 σ)) 0 0 A := by
  refine Met.ofW (cc := prog_8_method_1_code) (maxL := 1) (ret := none) (by decide) rfl ?_
  intro p e s m args below meth c s₁ B hml hv
  obtain ⟨hargs, hP, hK, hD, hZ, hz, hd, hO⟩ := hv
  have G : zk_G 2 p s m args c prog_8_method_1_code 1 "ScheduleCheck$Statement" D cA ad A b := ⟨⟨B.exec, B.bytes, hml, findClass_of_methodNamed B.named, fun w h => atoms_spec B.pre w (List.mem_cons_of_mem _ h)⟩, hK, hJ, hZ, had, hA, hO⟩
  have hw : zk_I 2 D cA ad A s b 43 σ s.heap [] := ⟨hP, hD, va_S.rf, hz, hd⟩
  have hx := G.1.1
  have hb := G.1.2.1
  have hown := G.1.2.2.2.1
  have hts := G.1.2.2.2.2
  have hr := B.returns
  have hlocks := B.notSynchronized
  have hin : meth.name = "<init>" := (name_of_methodNamed B.named B.method).1
  have he : entryFrame m args 1 = F0 m 0 ((lg_sl [.ref (ad 43)] ++ List.replicate (1 - (lg_sl [.ref (ad 43)]).length) Slot.unset).toArray) [] := by rw [hargs]; exact lg_entry_eq m _ 1
  have hl := lv_entry [.ref (ad 43)] (n := 1) (Nat.le_of_ble_eq_true rfl)
  rw [he]
  generalize (lg_sl [.ref (ad 43)] ++ List.replicate (1 - (lg_sl [.ref (ad 43)]).length) Slot.unset).toArray = ls at hl
  have hl : lv_has ls 1 [(0, .ref (ad 43))] := hl
  obtain ⟨RR, hR⟩ : ∃ z, z = (headSpec (.code y_Statement_init prog_8_method_1_code 1 none :: zd_ww) { frames := 1, cells := 0, slots := 0, locals := 30 }).room := ⟨_, rfl⟩
  rw [← hR]
  obtain ⟨QQ, hQ⟩ : ∃ z, z = MQ below (zk_Q 2 D cA ad A b 43 (zk_f_Statement_init_43 σ)) args s 0 0 A := ⟨_, rfl⟩
  rw [← hQ]
  have hR1 : 1 ≤ RR.frames := by rw [hR]; exact Nat.le_refl _
  have hR2 : 30 ≤ RR.locals := by rw [hR]; exact Nat.le_refl _
  have hR3 : 0 ≤ RR.cells := by rw [hR]; exact Nat.le_refl _
  have hR4 : 0 ≤ RR.slots := by rw [hR]; exact Nat.le_refl _
  generalize s.heap = H at hw ⊢
  generalize ([] : List Loc) = locs at hw ⊢
  refine lv_aload_n hx hb d_Statement_init_0 rfl (lv_at hl 0 rfl) ?_
  refine W.objInit hx hb hown (hts _ zn2_57) (hts _ zn2_1) (hts _ zn2_2) rfl (by rw [hml]; exact hl.1) rfl d_Statement_init_1 (Nat.le_trans (by decide) hR1) (Nat.le_trans (Nat.le_of_ble_eq_true rfl) hR2) ?_
  refine W.eq (g2 := F0 m 4 ls []) rfl ?_
  refine lv_aload_n hx hb d_Statement_init_4 rfl (lv_at hl 0 rfl) ?_
  refine va_gets (C := "ScheduleCheck$Kind") (n := "STOP") (d := "LScheduleCheck$Kind;") (v := .ref (ad 1109)) hx hb ((G.2.2.2.1.1 rfl).2.2.1.1 9 (by decide)).1 hw.2.2.1 hown (hts _ zn2_58) (fun _ h => h) d_Statement_init_5 ?_
  refine zk_putr (ci := 6) G hw 43 0 (by decide) (by decide) zi_6 t_zd6 t_zd6_ok n_zd6 rfl rfl rfl (by decide) rfl zn2_59 (fun _ h => h) rfl  (x := 1109) (by decide) (t_zd6_ok 0 (by decide)) rfl rfl d_Statement_init_8 (fun H locs hw => ?_)
  exact zk_vret G hw hr hlocks hQ d_Statement_init_11
def zk_f_Statement_init_44 (σ : zs_S) : zs_S := (zs_wr σ 44 0 1109)
set_option maxHeartbeats 8000000 in
set_option maxRecDepth 100000 in
theorem zk_Statement_init_44 {l : Launch} {D : va_G} {cA : Nat → ClassId} {ad : Nat → Nat} {A : Nat → Prop} {b : Nat} {σ : zs_S} (hJ : zs_J ad) (had : ∀ o, 1 ≤ o → o ≤ zd_M 2 → ad o = b + (o - 1)) (hA : ∀ q, b ≤ q → A q) : Met l y_Statement_init (.code y_Statement_init prog_8_method_1_code 1 none :: zd_ww) { frames := 1, cells := 0, slots := 0, locals := 30 } (va_Pc [.ref (ad 44)] (zk_U 2 D cA ad A b 44 σ)) (zk_Q 2 D cA ad A b 44 (zk_f_Statement_init_44 σ)) 0 0 A := by
  refine Met.ofW (cc := prog_8_method_1_code) (maxL := 1) (ret := none) (by decide) rfl ?_
  intro p e s m args below meth c s₁ B hml hv
  obtain ⟨hargs, hP, hK, hD, hZ, hz, hd, hO⟩ := hv
  have G : zk_G 2 p s m args c prog_8_method_1_code 1 "ScheduleCheck$Statement" D cA ad A b := ⟨⟨B.exec, B.bytes, hml, findClass_of_methodNamed B.named, fun w h => atoms_spec B.pre w (List.mem_cons_of_mem _ h)⟩, hK, hJ, hZ, had, hA, hO⟩
  have hw : zk_I 2 D cA ad A s b 44 σ s.heap [] := ⟨hP, hD, va_S.rf, hz, hd⟩
  have hx := G.1.1
  have hb := G.1.2.1
  have hown := G.1.2.2.2.1
  have hts := G.1.2.2.2.2
  have hr := B.returns
  have hlocks := B.notSynchronized
  have hin : meth.name = "<init>" := (name_of_methodNamed B.named B.method).1
  have he : entryFrame m args 1 = F0 m 0 ((lg_sl [.ref (ad 44)] ++ List.replicate (1 - (lg_sl [.ref (ad 44)]).length) Slot.unset).toArray) [] := by rw [hargs]; exact lg_entry_eq m _ 1
  have hl := lv_entry [.ref (ad 44)] (n := 1) (Nat.le_of_ble_eq_true rfl)
  rw [he]
  generalize (lg_sl [.ref (ad 44)] ++ List.replicate (1 - (lg_sl [.ref (ad 44)]).length) Slot.unset).toArray = ls at hl
  have hl : lv_has ls 1 [(0, .ref (ad 44))] := hl
  obtain ⟨RR, hR⟩ : ∃ z, z = (headSpec (.code y_Statement_init prog_8_method_1_code 1 none :: zd_ww) { frames := 1, cells := 0, slots := 0, locals := 30 }).room := ⟨_, rfl⟩
  rw [← hR]
  obtain ⟨QQ, hQ⟩ : ∃ z, z = MQ below (zk_Q 2 D cA ad A b 44 (zk_f_Statement_init_44 σ)) args s 0 0 A := ⟨_, rfl⟩
  rw [← hQ]
  have hR1 : 1 ≤ RR.frames := by rw [hR]; exact Nat.le_refl _
  have hR2 : 30 ≤ RR.locals := by rw [hR]; exact Nat.le_refl _
  have hR3 : 0 ≤ RR.cells := by rw [hR]; exact Nat.le_refl _
  have hR4 : 0 ≤ RR.slots := by rw [hR]; exact Nat.le_refl _
  generalize s.heap = H at hw ⊢
  generalize ([] : List Loc) = locs at hw ⊢
  refine lv_aload_n hx hb d_Statement_init_0 rfl (lv_at hl 0 rfl) ?_
  refine W.objInit hx hb hown (hts _ zn2_57) (hts _ zn2_1) (hts _ zn2_2) rfl (by rw [hml]; exact hl.1) rfl d_Statement_init_1 (Nat.le_trans (by decide) hR1) (Nat.le_trans (Nat.le_of_ble_eq_true rfl) hR2) ?_
  refine W.eq (g2 := F0 m 4 ls []) rfl ?_
  refine lv_aload_n hx hb d_Statement_init_4 rfl (lv_at hl 0 rfl) ?_
  refine va_gets (C := "ScheduleCheck$Kind") (n := "STOP") (d := "LScheduleCheck$Kind;") (v := .ref (ad 1109)) hx hb ((G.2.2.2.1.1 rfl).2.2.1.1 9 (by decide)).1 hw.2.2.1 hown (hts _ zn2_58) (fun _ h => h) d_Statement_init_5 ?_
  refine zk_putr (ci := 6) G hw 44 0 (by decide) (by decide) zi_6 t_zd6 t_zd6_ok n_zd6 rfl rfl rfl (by decide) rfl zn2_59 (fun _ h => h) rfl  (x := 1109) (by decide) (t_zd6_ok 0 (by decide)) rfl rfl d_Statement_init_8 (fun H locs hw => ?_)
  exact zk_vret G hw hr hlocks hQ d_Statement_init_11
def zk_f_Statement_init_45 (σ : zs_S) : zs_S := (zs_wr σ 45 0 1109)
set_option maxHeartbeats 8000000 in
set_option maxRecDepth 100000 in
theorem zk_Statement_init_45 {l : Launch} {D : va_G} {cA : Nat → ClassId} {ad : Nat → Nat} {A : Nat → Prop} {b : Nat} {σ : zs_S} (hJ : zs_J ad) (had : ∀ o, 1 ≤ o → o ≤ zd_M 2 → ad o = b + (o - 1)) (hA : ∀ q, b ≤ q → A q) : Met l y_Statement_init (.code y_Statement_init prog_8_method_1_code 1 none :: zd_ww) { frames := 1, cells := 0, slots := 0, locals := 30 } (va_Pc [.ref (ad 45)] (zk_U 2 D cA ad A b 45 σ)) (zk_Q 2 D cA ad A b 45 (zk_f_Statement_init_45 σ)) 0 0 A := by
  refine Met.ofW (cc := prog_8_method_1_code) (maxL := 1) (ret := none) (by decide) rfl ?_
  intro p e s m args below meth c s₁ B hml hv
  obtain ⟨hargs, hP, hK, hD, hZ, hz, hd, hO⟩ := hv
  have G : zk_G 2 p s m args c prog_8_method_1_code 1 "ScheduleCheck$Statement" D cA ad A b := ⟨⟨B.exec, B.bytes, hml, findClass_of_methodNamed B.named, fun w h => atoms_spec B.pre w (List.mem_cons_of_mem _ h)⟩, hK, hJ, hZ, had, hA, hO⟩
  have hw : zk_I 2 D cA ad A s b 45 σ s.heap [] := ⟨hP, hD, va_S.rf, hz, hd⟩
  have hx := G.1.1
  have hb := G.1.2.1
  have hown := G.1.2.2.2.1
  have hts := G.1.2.2.2.2
  have hr := B.returns
  have hlocks := B.notSynchronized
  have hin : meth.name = "<init>" := (name_of_methodNamed B.named B.method).1
  have he : entryFrame m args 1 = F0 m 0 ((lg_sl [.ref (ad 45)] ++ List.replicate (1 - (lg_sl [.ref (ad 45)]).length) Slot.unset).toArray) [] := by rw [hargs]; exact lg_entry_eq m _ 1
  have hl := lv_entry [.ref (ad 45)] (n := 1) (Nat.le_of_ble_eq_true rfl)
  rw [he]
  generalize (lg_sl [.ref (ad 45)] ++ List.replicate (1 - (lg_sl [.ref (ad 45)]).length) Slot.unset).toArray = ls at hl
  have hl : lv_has ls 1 [(0, .ref (ad 45))] := hl
  obtain ⟨RR, hR⟩ : ∃ z, z = (headSpec (.code y_Statement_init prog_8_method_1_code 1 none :: zd_ww) { frames := 1, cells := 0, slots := 0, locals := 30 }).room := ⟨_, rfl⟩
  rw [← hR]
  obtain ⟨QQ, hQ⟩ : ∃ z, z = MQ below (zk_Q 2 D cA ad A b 45 (zk_f_Statement_init_45 σ)) args s 0 0 A := ⟨_, rfl⟩
  rw [← hQ]
  have hR1 : 1 ≤ RR.frames := by rw [hR]; exact Nat.le_refl _
  have hR2 : 30 ≤ RR.locals := by rw [hR]; exact Nat.le_refl _
  have hR3 : 0 ≤ RR.cells := by rw [hR]; exact Nat.le_refl _
  have hR4 : 0 ≤ RR.slots := by rw [hR]; exact Nat.le_refl _
  generalize s.heap = H at hw ⊢
  generalize ([] : List Loc) = locs at hw ⊢
  refine lv_aload_n hx hb d_Statement_init_0 rfl (lv_at hl 0 rfl) ?_
  refine W.objInit hx hb hown (hts _ zn2_57) (hts _ zn2_1) (hts _ zn2_2) rfl (by rw [hml]; exact hl.1) rfl d_Statement_init_1 (Nat.le_trans (by decide) hR1) (Nat.le_trans (Nat.le_of_ble_eq_true rfl) hR2) ?_
  refine W.eq (g2 := F0 m 4 ls []) rfl ?_
  refine lv_aload_n hx hb d_Statement_init_4 rfl (lv_at hl 0 rfl) ?_
  refine va_gets (C := "ScheduleCheck$Kind") (n := "STOP") (d := "LScheduleCheck$Kind;") (v := .ref (ad 1109)) hx hb ((G.2.2.2.1.1 rfl).2.2.1.1 9 (by decide)).1 hw.2.2.1 hown (hts _ zn2_58) (fun _ h => h) d_Statement_init_5 ?_
  refine zk_putr (ci := 6) G hw 45 0 (by decide) (by decide) zi_6 t_zd6 t_zd6_ok n_zd6 rfl rfl rfl (by decide) rfl zn2_59 (fun _ h => h) rfl  (x := 1109) (by decide) (t_zd6_ok 0 (by decide)) rfl rfl d_Statement_init_8 (fun H locs hw => ?_)
  exact zk_vret G hw hr hlocks hQ d_Statement_init_11
def zk_f_Statement_init_46 (σ : zs_S) : zs_S := (zs_wr σ 46 0 1109)
set_option maxHeartbeats 8000000 in
set_option maxRecDepth 100000 in
theorem zk_Statement_init_46 {l : Launch} {D : va_G} {cA : Nat → ClassId} {ad : Nat → Nat} {A : Nat → Prop} {b : Nat} {σ : zs_S} (hJ : zs_J ad) (had : ∀ o, 1 ≤ o → o ≤ zd_M 2 → ad o = b + (o - 1)) (hA : ∀ q, b ≤ q → A q) : Met l y_Statement_init (.code y_Statement_init prog_8_method_1_code 1 none :: zd_ww) { frames := 1, cells := 0, slots := 0, locals := 30 } (va_Pc [.ref (ad 46)] (zk_U 2 D cA ad A b 46 σ)) (zk_Q 2 D cA ad A b 46 (zk_f_Statement_init_46 σ)) 0 0 A := by
  refine Met.ofW (cc := prog_8_method_1_code) (maxL := 1) (ret := none) (by decide) rfl ?_
  intro p e s m args below meth c s₁ B hml hv
  obtain ⟨hargs, hP, hK, hD, hZ, hz, hd, hO⟩ := hv
  have G : zk_G 2 p s m args c prog_8_method_1_code 1 "ScheduleCheck$Statement" D cA ad A b := ⟨⟨B.exec, B.bytes, hml, findClass_of_methodNamed B.named, fun w h => atoms_spec B.pre w (List.mem_cons_of_mem _ h)⟩, hK, hJ, hZ, had, hA, hO⟩
  have hw : zk_I 2 D cA ad A s b 46 σ s.heap [] := ⟨hP, hD, va_S.rf, hz, hd⟩
  have hx := G.1.1
  have hb := G.1.2.1
  have hown := G.1.2.2.2.1
  have hts := G.1.2.2.2.2
  have hr := B.returns
  have hlocks := B.notSynchronized
  have hin : meth.name = "<init>" := (name_of_methodNamed B.named B.method).1
  have he : entryFrame m args 1 = F0 m 0 ((lg_sl [.ref (ad 46)] ++ List.replicate (1 - (lg_sl [.ref (ad 46)]).length) Slot.unset).toArray) [] := by rw [hargs]; exact lg_entry_eq m _ 1
  have hl := lv_entry [.ref (ad 46)] (n := 1) (Nat.le_of_ble_eq_true rfl)
  rw [he]
  generalize (lg_sl [.ref (ad 46)] ++ List.replicate (1 - (lg_sl [.ref (ad 46)]).length) Slot.unset).toArray = ls at hl
  have hl : lv_has ls 1 [(0, .ref (ad 46))] := hl
  obtain ⟨RR, hR⟩ : ∃ z, z = (headSpec (.code y_Statement_init prog_8_method_1_code 1 none :: zd_ww) { frames := 1, cells := 0, slots := 0, locals := 30 }).room := ⟨_, rfl⟩
  rw [← hR]
  obtain ⟨QQ, hQ⟩ : ∃ z, z = MQ below (zk_Q 2 D cA ad A b 46 (zk_f_Statement_init_46 σ)) args s 0 0 A := ⟨_, rfl⟩
  rw [← hQ]
  have hR1 : 1 ≤ RR.frames := by rw [hR]; exact Nat.le_refl _
  have hR2 : 30 ≤ RR.locals := by rw [hR]; exact Nat.le_refl _
  have hR3 : 0 ≤ RR.cells := by rw [hR]; exact Nat.le_refl _
  have hR4 : 0 ≤ RR.slots := by rw [hR]; exact Nat.le_refl _
  generalize s.heap = H at hw ⊢
  generalize ([] : List Loc) = locs at hw ⊢
  refine lv_aload_n hx hb d_Statement_init_0 rfl (lv_at hl 0 rfl) ?_
  refine W.objInit hx hb hown (hts _ zn2_57) (hts _ zn2_1) (hts _ zn2_2) rfl (by rw [hml]; exact hl.1) rfl d_Statement_init_1 (Nat.le_trans (by decide) hR1) (Nat.le_trans (Nat.le_of_ble_eq_true rfl) hR2) ?_
  refine W.eq (g2 := F0 m 4 ls []) rfl ?_
  refine lv_aload_n hx hb d_Statement_init_4 rfl (lv_at hl 0 rfl) ?_
  refine va_gets (C := "ScheduleCheck$Kind") (n := "STOP") (d := "LScheduleCheck$Kind;") (v := .ref (ad 1109)) hx hb ((G.2.2.2.1.1 rfl).2.2.1.1 9 (by decide)).1 hw.2.2.1 hown (hts _ zn2_58) (fun _ h => h) d_Statement_init_5 ?_
  refine zk_putr (ci := 6) G hw 46 0 (by decide) (by decide) zi_6 t_zd6 t_zd6_ok n_zd6 rfl rfl rfl (by decide) rfl zn2_59 (fun _ h => h) rfl  (x := 1109) (by decide) (t_zd6_ok 0 (by decide)) rfl rfl d_Statement_init_8 (fun H locs hw => ?_)
  exact zk_vret G hw hr hlocks hQ d_Statement_init_11
def zk_f_Statement_init_47 (σ : zs_S) : zs_S := (zs_wr σ 47 0 1109)
set_option maxHeartbeats 8000000 in
set_option maxRecDepth 100000 in
theorem zk_Statement_init_47 {l : Launch} {D : va_G} {cA : Nat → ClassId} {ad : Nat → Nat} {A : Nat → Prop} {b : Nat} {σ : zs_S} (hJ : zs_J ad) (had : ∀ o, 1 ≤ o → o ≤ zd_M 2 → ad o = b + (o - 1)) (hA : ∀ q, b ≤ q → A q) : Met l y_Statement_init (.code y_Statement_init prog_8_method_1_code 1 none :: zd_ww) { frames := 1, cells := 0, slots := 0, locals := 30 } (va_Pc [.ref (ad 47)] (zk_U 2 D cA ad A b 47 σ)) (zk_Q 2 D cA ad A b 47 (zk_f_Statement_init_47 σ)) 0 0 A := by
  refine Met.ofW (cc := prog_8_method_1_code) (maxL := 1) (ret := none) (by decide) rfl ?_
  intro p e s m args below meth c s₁ B hml hv
  obtain ⟨hargs, hP, hK, hD, hZ, hz, hd, hO⟩ := hv
  have G : zk_G 2 p s m args c prog_8_method_1_code 1 "ScheduleCheck$Statement" D cA ad A b := ⟨⟨B.exec, B.bytes, hml, findClass_of_methodNamed B.named, fun w h => atoms_spec B.pre w (List.mem_cons_of_mem _ h)⟩, hK, hJ, hZ, had, hA, hO⟩
  have hw : zk_I 2 D cA ad A s b 47 σ s.heap [] := ⟨hP, hD, va_S.rf, hz, hd⟩
  have hx := G.1.1
  have hb := G.1.2.1
  have hown := G.1.2.2.2.1
  have hts := G.1.2.2.2.2
  have hr := B.returns
  have hlocks := B.notSynchronized
  have hin : meth.name = "<init>" := (name_of_methodNamed B.named B.method).1
  have he : entryFrame m args 1 = F0 m 0 ((lg_sl [.ref (ad 47)] ++ List.replicate (1 - (lg_sl [.ref (ad 47)]).length) Slot.unset).toArray) [] := by rw [hargs]; exact lg_entry_eq m _ 1
  have hl := lv_entry [.ref (ad 47)] (n := 1) (Nat.le_of_ble_eq_true rfl)
  rw [he]
  generalize (lg_sl [.ref (ad 47)] ++ List.replicate (1 - (lg_sl [.ref (ad 47)]).length) Slot.unset).toArray = ls at hl
  have hl : lv_has ls 1 [(0, .ref (ad 47))] := hl
  obtain ⟨RR, hR⟩ : ∃ z, z = (headSpec (.code y_Statement_init prog_8_method_1_code 1 none :: zd_ww) { frames := 1, cells := 0, slots := 0, locals := 30 }).room := ⟨_, rfl⟩
  rw [← hR]
  obtain ⟨QQ, hQ⟩ : ∃ z, z = MQ below (zk_Q 2 D cA ad A b 47 (zk_f_Statement_init_47 σ)) args s 0 0 A := ⟨_, rfl⟩
  rw [← hQ]
  have hR1 : 1 ≤ RR.frames := by rw [hR]; exact Nat.le_refl _
  have hR2 : 30 ≤ RR.locals := by rw [hR]; exact Nat.le_refl _
  have hR3 : 0 ≤ RR.cells := by rw [hR]; exact Nat.le_refl _
  have hR4 : 0 ≤ RR.slots := by rw [hR]; exact Nat.le_refl _
  generalize s.heap = H at hw ⊢
  generalize ([] : List Loc) = locs at hw ⊢
  refine lv_aload_n hx hb d_Statement_init_0 rfl (lv_at hl 0 rfl) ?_
  refine W.objInit hx hb hown (hts _ zn2_57) (hts _ zn2_1) (hts _ zn2_2) rfl (by rw [hml]; exact hl.1) rfl d_Statement_init_1 (Nat.le_trans (by decide) hR1) (Nat.le_trans (Nat.le_of_ble_eq_true rfl) hR2) ?_
  refine W.eq (g2 := F0 m 4 ls []) rfl ?_
  refine lv_aload_n hx hb d_Statement_init_4 rfl (lv_at hl 0 rfl) ?_
  refine va_gets (C := "ScheduleCheck$Kind") (n := "STOP") (d := "LScheduleCheck$Kind;") (v := .ref (ad 1109)) hx hb ((G.2.2.2.1.1 rfl).2.2.1.1 9 (by decide)).1 hw.2.2.1 hown (hts _ zn2_58) (fun _ h => h) d_Statement_init_5 ?_
  refine zk_putr (ci := 6) G hw 47 0 (by decide) (by decide) zi_6 t_zd6 t_zd6_ok n_zd6 rfl rfl rfl (by decide) rfl zn2_59 (fun _ h => h) rfl  (x := 1109) (by decide) (t_zd6_ok 0 (by decide)) rfl rfl d_Statement_init_8 (fun H locs hw => ?_)
  exact zk_vret G hw hr hlocks hQ d_Statement_init_11
def zk_f_Statement_init_48 (σ : zs_S) : zs_S := (zs_wr σ 48 0 1109)
set_option maxHeartbeats 8000000 in
set_option maxRecDepth 100000 in
theorem zk_Statement_init_48 {l : Launch} {D : va_G} {cA : Nat → ClassId} {ad : Nat → Nat} {A : Nat → Prop} {b : Nat} {σ : zs_S} (hJ : zs_J ad) (had : ∀ o, 1 ≤ o → o ≤ zd_M 2 → ad o = b + (o - 1)) (hA : ∀ q, b ≤ q → A q) : Met l y_Statement_init (.code y_Statement_init prog_8_method_1_code 1 none :: zd_ww) { frames := 1, cells := 0, slots := 0, locals := 30 } (va_Pc [.ref (ad 48)] (zk_U 2 D cA ad A b 48 σ)) (zk_Q 2 D cA ad A b 48 (zk_f_Statement_init_48 σ)) 0 0 A := by
  refine Met.ofW (cc := prog_8_method_1_code) (maxL := 1) (ret := none) (by decide) rfl ?_
  intro p e s m args below meth c s₁ B hml hv
  obtain ⟨hargs, hP, hK, hD, hZ, hz, hd, hO⟩ := hv
  have G : zk_G 2 p s m args c prog_8_method_1_code 1 "ScheduleCheck$Statement" D cA ad A b := ⟨⟨B.exec, B.bytes, hml, findClass_of_methodNamed B.named, fun w h => atoms_spec B.pre w (List.mem_cons_of_mem _ h)⟩, hK, hJ, hZ, had, hA, hO⟩
  have hw : zk_I 2 D cA ad A s b 48 σ s.heap [] := ⟨hP, hD, va_S.rf, hz, hd⟩
  have hx := G.1.1
  have hb := G.1.2.1
  have hown := G.1.2.2.2.1
  have hts := G.1.2.2.2.2
  have hr := B.returns
  have hlocks := B.notSynchronized
  have hin : meth.name = "<init>" := (name_of_methodNamed B.named B.method).1
  have he : entryFrame m args 1 = F0 m 0 ((lg_sl [.ref (ad 48)] ++ List.replicate (1 - (lg_sl [.ref (ad 48)]).length) Slot.unset).toArray) [] := by rw [hargs]; exact lg_entry_eq m _ 1
  have hl := lv_entry [.ref (ad 48)] (n := 1) (Nat.le_of_ble_eq_true rfl)
  rw [he]
  generalize (lg_sl [.ref (ad 48)] ++ List.replicate (1 - (lg_sl [.ref (ad 48)]).length) Slot.unset).toArray = ls at hl
  have hl : lv_has ls 1 [(0, .ref (ad 48))] := hl
  obtain ⟨RR, hR⟩ : ∃ z, z = (headSpec (.code y_Statement_init prog_8_method_1_code 1 none :: zd_ww) { frames := 1, cells := 0, slots := 0, locals := 30 }).room := ⟨_, rfl⟩
  rw [← hR]
  obtain ⟨QQ, hQ⟩ : ∃ z, z = MQ below (zk_Q 2 D cA ad A b 48 (zk_f_Statement_init_48 σ)) args s 0 0 A := ⟨_, rfl⟩
  rw [← hQ]
  have hR1 : 1 ≤ RR.frames := by rw [hR]; exact Nat.le_refl _
  have hR2 : 30 ≤ RR.locals := by rw [hR]; exact Nat.le_refl _
  have hR3 : 0 ≤ RR.cells := by rw [hR]; exact Nat.le_refl _
  have hR4 : 0 ≤ RR.slots := by rw [hR]; exact Nat.le_refl _
  generalize s.heap = H at hw ⊢
  generalize ([] : List Loc) = locs at hw ⊢
  refine lv_aload_n hx hb d_Statement_init_0 rfl (lv_at hl 0 rfl) ?_
  refine W.objInit hx hb hown (hts _ zn2_57) (hts _ zn2_1) (hts _ zn2_2) rfl (by rw [hml]; exact hl.1) rfl d_Statement_init_1 (Nat.le_trans (by decide) hR1) (Nat.le_trans (Nat.le_of_ble_eq_true rfl) hR2) ?_
  refine W.eq (g2 := F0 m 4 ls []) rfl ?_
  refine lv_aload_n hx hb d_Statement_init_4 rfl (lv_at hl 0 rfl) ?_
  refine va_gets (C := "ScheduleCheck$Kind") (n := "STOP") (d := "LScheduleCheck$Kind;") (v := .ref (ad 1109)) hx hb ((G.2.2.2.1.1 rfl).2.2.1.1 9 (by decide)).1 hw.2.2.1 hown (hts _ zn2_58) (fun _ h => h) d_Statement_init_5 ?_
  refine zk_putr (ci := 6) G hw 48 0 (by decide) (by decide) zi_6 t_zd6 t_zd6_ok n_zd6 rfl rfl rfl (by decide) rfl zn2_59 (fun _ h => h) rfl  (x := 1109) (by decide) (t_zd6_ok 0 (by decide)) rfl rfl d_Statement_init_8 (fun H locs hw => ?_)
  exact zk_vret G hw hr hlocks hQ d_Statement_init_11
def zk_f_Statement_init_49 (σ : zs_S) : zs_S := (zs_wr σ 49 0 1109)
set_option maxHeartbeats 8000000 in
set_option maxRecDepth 100000 in
theorem zk_Statement_init_49 {l : Launch} {D : va_G} {cA : Nat → ClassId} {ad : Nat → Nat} {A : Nat → Prop} {b : Nat} {σ : zs_S} (hJ : zs_J ad) (had : ∀ o, 1 ≤ o → o ≤ zd_M 2 → ad o = b + (o - 1)) (hA : ∀ q, b ≤ q → A q) : Met l y_Statement_init (.code y_Statement_init prog_8_method_1_code 1 none :: zd_ww) { frames := 1, cells := 0, slots := 0, locals := 30 } (va_Pc [.ref (ad 49)] (zk_U 2 D cA ad A b 49 σ)) (zk_Q 2 D cA ad A b 49 (zk_f_Statement_init_49 σ)) 0 0 A := by
  refine Met.ofW (cc := prog_8_method_1_code) (maxL := 1) (ret := none) (by decide) rfl ?_
  intro p e s m args below meth c s₁ B hml hv
  obtain ⟨hargs, hP, hK, hD, hZ, hz, hd, hO⟩ := hv
  have G : zk_G 2 p s m args c prog_8_method_1_code 1 "ScheduleCheck$Statement" D cA ad A b := ⟨⟨B.exec, B.bytes, hml, findClass_of_methodNamed B.named, fun w h => atoms_spec B.pre w (List.mem_cons_of_mem _ h)⟩, hK, hJ, hZ, had, hA, hO⟩
  have hw : zk_I 2 D cA ad A s b 49 σ s.heap [] := ⟨hP, hD, va_S.rf, hz, hd⟩
  have hx := G.1.1
  have hb := G.1.2.1
  have hown := G.1.2.2.2.1
  have hts := G.1.2.2.2.2
  have hr := B.returns
  have hlocks := B.notSynchronized
  have hin : meth.name = "<init>" := (name_of_methodNamed B.named B.method).1
  have he : entryFrame m args 1 = F0 m 0 ((lg_sl [.ref (ad 49)] ++ List.replicate (1 - (lg_sl [.ref (ad 49)]).length) Slot.unset).toArray) [] := by rw [hargs]; exact lg_entry_eq m _ 1
  have hl := lv_entry [.ref (ad 49)] (n := 1) (Nat.le_of_ble_eq_true rfl)
  rw [he]
  generalize (lg_sl [.ref (ad 49)] ++ List.replicate (1 - (lg_sl [.ref (ad 49)]).length) Slot.unset).toArray = ls at hl
  have hl : lv_has ls 1 [(0, .ref (ad 49))] := hl
  obtain ⟨RR, hR⟩ : ∃ z, z = (headSpec (.code y_Statement_init prog_8_method_1_code 1 none :: zd_ww) { frames := 1, cells := 0, slots := 0, locals := 30 }).room := ⟨_, rfl⟩
  rw [← hR]
  obtain ⟨QQ, hQ⟩ : ∃ z, z = MQ below (zk_Q 2 D cA ad A b 49 (zk_f_Statement_init_49 σ)) args s 0 0 A := ⟨_, rfl⟩
  rw [← hQ]
  have hR1 : 1 ≤ RR.frames := by rw [hR]; exact Nat.le_refl _
  have hR2 : 30 ≤ RR.locals := by rw [hR]; exact Nat.le_refl _
  have hR3 : 0 ≤ RR.cells := by rw [hR]; exact Nat.le_refl _
  have hR4 : 0 ≤ RR.slots := by rw [hR]; exact Nat.le_refl _
  generalize s.heap = H at hw ⊢
  generalize ([] : List Loc) = locs at hw ⊢
  refine lv_aload_n hx hb d_Statement_init_0 rfl (lv_at hl 0 rfl) ?_
  refine W.objInit hx hb hown (hts _ zn2_57) (hts _ zn2_1) (hts _ zn2_2) rfl (by rw [hml]; exact hl.1) rfl d_Statement_init_1 (Nat.le_trans (by decide) hR1) (Nat.le_trans (Nat.le_of_ble_eq_true rfl) hR2) ?_
  refine W.eq (g2 := F0 m 4 ls []) rfl ?_
  refine lv_aload_n hx hb d_Statement_init_4 rfl (lv_at hl 0 rfl) ?_
  refine va_gets (C := "ScheduleCheck$Kind") (n := "STOP") (d := "LScheduleCheck$Kind;") (v := .ref (ad 1109)) hx hb ((G.2.2.2.1.1 rfl).2.2.1.1 9 (by decide)).1 hw.2.2.1 hown (hts _ zn2_58) (fun _ h => h) d_Statement_init_5 ?_
  refine zk_putr (ci := 6) G hw 49 0 (by decide) (by decide) zi_6 t_zd6 t_zd6_ok n_zd6 rfl rfl rfl (by decide) rfl zn2_59 (fun _ h => h) rfl  (x := 1109) (by decide) (t_zd6_ok 0 (by decide)) rfl rfl d_Statement_init_8 (fun H locs hw => ?_)
  exact zk_vret G hw hr hlocks hQ d_Statement_init_11
def zk_f_Statement_init_50 (σ : zs_S) : zs_S := (zs_wr σ 50 0 1109)
set_option maxHeartbeats 8000000 in
set_option maxRecDepth 100000 in
theorem zk_Statement_init_50 {l : Launch} {D : va_G} {cA : Nat → ClassId} {ad : Nat → Nat} {A : Nat → Prop} {b : Nat} {σ : zs_S} (hJ : zs_J ad) (had : ∀ o, 1 ≤ o → o ≤ zd_M 2 → ad o = b + (o - 1)) (hA : ∀ q, b ≤ q → A q) : Met l y_Statement_init (.code y_Statement_init prog_8_method_1_code 1 none :: zd_ww) { frames := 1, cells := 0, slots := 0, locals := 30 } (va_Pc [.ref (ad 50)] (zk_U 2 D cA ad A b 50 σ)) (zk_Q 2 D cA ad A b 50 (zk_f_Statement_init_50 σ)) 0 0 A := by
  refine Met.ofW (cc := prog_8_method_1_code) (maxL := 1) (ret := none) (by decide) rfl ?_
  intro p e s m args below meth c s₁ B hml hv
  obtain ⟨hargs, hP, hK, hD, hZ, hz, hd, hO⟩ := hv
  have G : zk_G 2 p s m args c prog_8_method_1_code 1 "ScheduleCheck$Statement" D cA ad A b := ⟨⟨B.exec, B.bytes, hml, findClass_of_methodNamed B.named, fun w h => atoms_spec B.pre w (List.mem_cons_of_mem _ h)⟩, hK, hJ, hZ, had, hA, hO⟩
  have hw : zk_I 2 D cA ad A s b 50 σ s.heap [] := ⟨hP, hD, va_S.rf, hz, hd⟩
  have hx := G.1.1
  have hb := G.1.2.1
  have hown := G.1.2.2.2.1
  have hts := G.1.2.2.2.2
  have hr := B.returns
  have hlocks := B.notSynchronized
  have hin : meth.name = "<init>" := (name_of_methodNamed B.named B.method).1
  have he : entryFrame m args 1 = F0 m 0 ((lg_sl [.ref (ad 50)] ++ List.replicate (1 - (lg_sl [.ref (ad 50)]).length) Slot.unset).toArray) [] := by rw [hargs]; exact lg_entry_eq m _ 1
  have hl := lv_entry [.ref (ad 50)] (n := 1) (Nat.le_of_ble_eq_true rfl)
  rw [he]
  generalize (lg_sl [.ref (ad 50)] ++ List.replicate (1 - (lg_sl [.ref (ad 50)]).length) Slot.unset).toArray = ls at hl
  have hl : lv_has ls 1 [(0, .ref (ad 50))] := hl
  obtain ⟨RR, hR⟩ : ∃ z, z = (headSpec (.code y_Statement_init prog_8_method_1_code 1 none :: zd_ww) { frames := 1, cells := 0, slots := 0, locals := 30 }).room := ⟨_, rfl⟩
  rw [← hR]
  obtain ⟨QQ, hQ⟩ : ∃ z, z = MQ below (zk_Q 2 D cA ad A b 50 (zk_f_Statement_init_50 σ)) args s 0 0 A := ⟨_, rfl⟩
  rw [← hQ]
  have hR1 : 1 ≤ RR.frames := by rw [hR]; exact Nat.le_refl _
  have hR2 : 30 ≤ RR.locals := by rw [hR]; exact Nat.le_refl _
  have hR3 : 0 ≤ RR.cells := by rw [hR]; exact Nat.le_refl _
  have hR4 : 0 ≤ RR.slots := by rw [hR]; exact Nat.le_refl _
  generalize s.heap = H at hw ⊢
  generalize ([] : List Loc) = locs at hw ⊢
  refine lv_aload_n hx hb d_Statement_init_0 rfl (lv_at hl 0 rfl) ?_
  refine W.objInit hx hb hown (hts _ zn2_57) (hts _ zn2_1) (hts _ zn2_2) rfl (by rw [hml]; exact hl.1) rfl d_Statement_init_1 (Nat.le_trans (by decide) hR1) (Nat.le_trans (Nat.le_of_ble_eq_true rfl) hR2) ?_
  refine W.eq (g2 := F0 m 4 ls []) rfl ?_
  refine lv_aload_n hx hb d_Statement_init_4 rfl (lv_at hl 0 rfl) ?_
  refine va_gets (C := "ScheduleCheck$Kind") (n := "STOP") (d := "LScheduleCheck$Kind;") (v := .ref (ad 1109)) hx hb ((G.2.2.2.1.1 rfl).2.2.1.1 9 (by decide)).1 hw.2.2.1 hown (hts _ zn2_58) (fun _ h => h) d_Statement_init_5 ?_
  refine zk_putr (ci := 6) G hw 50 0 (by decide) (by decide) zi_6 t_zd6 t_zd6_ok n_zd6 rfl rfl rfl (by decide) rfl zn2_59 (fun _ h => h) rfl  (x := 1109) (by decide) (t_zd6_ok 0 (by decide)) rfl rfl d_Statement_init_8 (fun H locs hw => ?_)
  exact zk_vret G hw hr hlocks hQ d_Statement_init_11
def zk_f_Statement_init_51 (σ : zs_S) : zs_S := (zs_wr σ 51 0 1109)
set_option maxHeartbeats 8000000 in
set_option maxRecDepth 100000 in
theorem zk_Statement_init_51 {l : Launch} {D : va_G} {cA : Nat → ClassId} {ad : Nat → Nat} {A : Nat → Prop} {b : Nat} {σ : zs_S} (hJ : zs_J ad) (had : ∀ o, 1 ≤ o → o ≤ zd_M 2 → ad o = b + (o - 1)) (hA : ∀ q, b ≤ q → A q) : Met l y_Statement_init (.code y_Statement_init prog_8_method_1_code 1 none :: zd_ww) { frames := 1, cells := 0, slots := 0, locals := 30 } (va_Pc [.ref (ad 51)] (zk_U 2 D cA ad A b 51 σ)) (zk_Q 2 D cA ad A b 51 (zk_f_Statement_init_51 σ)) 0 0 A := by
  refine Met.ofW (cc := prog_8_method_1_code) (maxL := 1) (ret := none) (by decide) rfl ?_
  intro p e s m args below meth c s₁ B hml hv
  obtain ⟨hargs, hP, hK, hD, hZ, hz, hd, hO⟩ := hv
  have G : zk_G 2 p s m args c prog_8_method_1_code 1 "ScheduleCheck$Statement" D cA ad A b := ⟨⟨B.exec, B.bytes, hml, findClass_of_methodNamed B.named, fun w h => atoms_spec B.pre w (List.mem_cons_of_mem _ h)⟩, hK, hJ, hZ, had, hA, hO⟩
  have hw : zk_I 2 D cA ad A s b 51 σ s.heap [] := ⟨hP, hD, va_S.rf, hz, hd⟩
  have hx := G.1.1
  have hb := G.1.2.1
  have hown := G.1.2.2.2.1
  have hts := G.1.2.2.2.2
  have hr := B.returns
  have hlocks := B.notSynchronized
  have hin : meth.name = "<init>" := (name_of_methodNamed B.named B.method).1
  have he : entryFrame m args 1 = F0 m 0 ((lg_sl [.ref (ad 51)] ++ List.replicate (1 - (lg_sl [.ref (ad 51)]).length) Slot.unset).toArray) [] := by rw [hargs]; exact lg_entry_eq m _ 1
  have hl := lv_entry [.ref (ad 51)] (n := 1) (Nat.le_of_ble_eq_true rfl)
  rw [he]
  generalize (lg_sl [.ref (ad 51)] ++ List.replicate (1 - (lg_sl [.ref (ad 51)]).length) Slot.unset).toArray = ls at hl
  have hl : lv_has ls 1 [(0, .ref (ad 51))] := hl
  obtain ⟨RR, hR⟩ : ∃ z, z = (headSpec (.code y_Statement_init prog_8_method_1_code 1 none :: zd_ww) { frames := 1, cells := 0, slots := 0, locals := 30 }).room := ⟨_, rfl⟩
  rw [← hR]
  obtain ⟨QQ, hQ⟩ : ∃ z, z = MQ below (zk_Q 2 D cA ad A b 51 (zk_f_Statement_init_51 σ)) args s 0 0 A := ⟨_, rfl⟩
  rw [← hQ]
  have hR1 : 1 ≤ RR.frames := by rw [hR]; exact Nat.le_refl _
  have hR2 : 30 ≤ RR.locals := by rw [hR]; exact Nat.le_refl _
  have hR3 : 0 ≤ RR.cells := by rw [hR]; exact Nat.le_refl _
  have hR4 : 0 ≤ RR.slots := by rw [hR]; exact Nat.le_refl _
  generalize s.heap = H at hw ⊢
  generalize ([] : List Loc) = locs at hw ⊢
  refine lv_aload_n hx hb d_Statement_init_0 rfl (lv_at hl 0 rfl) ?_
  refine W.objInit hx hb hown (hts _ zn2_57) (hts _ zn2_1) (hts _ zn2_2) rfl (by rw [hml]; exact hl.1) rfl d_Statement_init_1 (Nat.le_trans (by decide) hR1) (Nat.le_trans (Nat.le_of_ble_eq_true rfl) hR2) ?_
  refine W.eq (g2 := F0 m 4 ls []) rfl ?_
  refine lv_aload_n hx hb d_Statement_init_4 rfl (lv_at hl 0 rfl) ?_
  refine va_gets (C := "ScheduleCheck$Kind") (n := "STOP") (d := "LScheduleCheck$Kind;") (v := .ref (ad 1109)) hx hb ((G.2.2.2.1.1 rfl).2.2.1.1 9 (by decide)).1 hw.2.2.1 hown (hts _ zn2_58) (fun _ h => h) d_Statement_init_5 ?_
  refine zk_putr (ci := 6) G hw 51 0 (by decide) (by decide) zi_6 t_zd6 t_zd6_ok n_zd6 rfl rfl rfl (by decide) rfl zn2_59 (fun _ h => h) rfl  (x := 1109) (by decide) (t_zd6_ok 0 (by decide)) rfl rfl d_Statement_init_8 (fun H locs hw => ?_)
  exact zk_vret G hw hr hlocks hQ d_Statement_init_11
def zk_f_Statement_init_52 (σ : zs_S) : zs_S := (zs_wr σ 52 0 1109)
set_option maxHeartbeats 8000000 in
set_option maxRecDepth 100000 in
theorem zk_Statement_init_52 {l : Launch} {D : va_G} {cA : Nat → ClassId} {ad : Nat → Nat} {A : Nat → Prop} {b : Nat} {σ : zs_S} (hJ : zs_J ad) (had : ∀ o, 1 ≤ o → o ≤ zd_M 2 → ad o = b + (o - 1)) (hA : ∀ q, b ≤ q → A q) : Met l y_Statement_init (.code y_Statement_init prog_8_method_1_code 1 none :: zd_ww) { frames := 1, cells := 0, slots := 0, locals := 30 } (va_Pc [.ref (ad 52)] (zk_U 2 D cA ad A b 52 σ)) (zk_Q 2 D cA ad A b 52 (zk_f_Statement_init_52 σ)) 0 0 A := by
  refine Met.ofW (cc := prog_8_method_1_code) (maxL := 1) (ret := none) (by decide) rfl ?_
  intro p e s m args below meth c s₁ B hml hv
  obtain ⟨hargs, hP, hK, hD, hZ, hz, hd, hO⟩ := hv
  have G : zk_G 2 p s m args c prog_8_method_1_code 1 "ScheduleCheck$Statement" D cA ad A b := ⟨⟨B.exec, B.bytes, hml, findClass_of_methodNamed B.named, fun w h => atoms_spec B.pre w (List.mem_cons_of_mem _ h)⟩, hK, hJ, hZ, had, hA, hO⟩
  have hw : zk_I 2 D cA ad A s b 52 σ s.heap [] := ⟨hP, hD, va_S.rf, hz, hd⟩
  have hx := G.1.1
  have hb := G.1.2.1
  have hown := G.1.2.2.2.1
  have hts := G.1.2.2.2.2
  have hr := B.returns
  have hlocks := B.notSynchronized
  have hin : meth.name = "<init>" := (name_of_methodNamed B.named B.method).1
  have he : entryFrame m args 1 = F0 m 0 ((lg_sl [.ref (ad 52)] ++ List.replicate (1 - (lg_sl [.ref (ad 52)]).length) Slot.unset).toArray) [] := by rw [hargs]; exact lg_entry_eq m _ 1
  have hl := lv_entry [.ref (ad 52)] (n := 1) (Nat.le_of_ble_eq_true rfl)
  rw [he]
  generalize (lg_sl [.ref (ad 52)] ++ List.replicate (1 - (lg_sl [.ref (ad 52)]).length) Slot.unset).toArray = ls at hl
  have hl : lv_has ls 1 [(0, .ref (ad 52))] := hl
  obtain ⟨RR, hR⟩ : ∃ z, z = (headSpec (.code y_Statement_init prog_8_method_1_code 1 none :: zd_ww) { frames := 1, cells := 0, slots := 0, locals := 30 }).room := ⟨_, rfl⟩
  rw [← hR]
  obtain ⟨QQ, hQ⟩ : ∃ z, z = MQ below (zk_Q 2 D cA ad A b 52 (zk_f_Statement_init_52 σ)) args s 0 0 A := ⟨_, rfl⟩
  rw [← hQ]
  have hR1 : 1 ≤ RR.frames := by rw [hR]; exact Nat.le_refl _
  have hR2 : 30 ≤ RR.locals := by rw [hR]; exact Nat.le_refl _
  have hR3 : 0 ≤ RR.cells := by rw [hR]; exact Nat.le_refl _
  have hR4 : 0 ≤ RR.slots := by rw [hR]; exact Nat.le_refl _
  generalize s.heap = H at hw ⊢
  generalize ([] : List Loc) = locs at hw ⊢
  refine lv_aload_n hx hb d_Statement_init_0 rfl (lv_at hl 0 rfl) ?_
  refine W.objInit hx hb hown (hts _ zn2_57) (hts _ zn2_1) (hts _ zn2_2) rfl (by rw [hml]; exact hl.1) rfl d_Statement_init_1 (Nat.le_trans (by decide) hR1) (Nat.le_trans (Nat.le_of_ble_eq_true rfl) hR2) ?_
  refine W.eq (g2 := F0 m 4 ls []) rfl ?_
  refine lv_aload_n hx hb d_Statement_init_4 rfl (lv_at hl 0 rfl) ?_
  refine va_gets (C := "ScheduleCheck$Kind") (n := "STOP") (d := "LScheduleCheck$Kind;") (v := .ref (ad 1109)) hx hb ((G.2.2.2.1.1 rfl).2.2.1.1 9 (by decide)).1 hw.2.2.1 hown (hts _ zn2_58) (fun _ h => h) d_Statement_init_5 ?_
  refine zk_putr (ci := 6) G hw 52 0 (by decide) (by decide) zi_6 t_zd6 t_zd6_ok n_zd6 rfl rfl rfl (by decide) rfl zn2_59 (fun _ h => h) rfl  (x := 1109) (by decide) (t_zd6_ok 0 (by decide)) rfl rfl d_Statement_init_8 (fun H locs hw => ?_)
  exact zk_vret G hw hr hlocks hQ d_Statement_init_11
def zk_f_Statement_init_53 (σ : zs_S) : zs_S := (zs_wr σ 53 0 1109)
set_option maxHeartbeats 8000000 in
set_option maxRecDepth 100000 in
theorem zk_Statement_init_53 {l : Launch} {D : va_G} {cA : Nat → ClassId} {ad : Nat → Nat} {A : Nat → Prop} {b : Nat} {σ : zs_S} (hJ : zs_J ad) (had : ∀ o, 1 ≤ o → o ≤ zd_M 2 → ad o = b + (o - 1)) (hA : ∀ q, b ≤ q → A q) : Met l y_Statement_init (.code y_Statement_init prog_8_method_1_code 1 none :: zd_ww) { frames := 1, cells := 0, slots := 0, locals := 30 } (va_Pc [.ref (ad 53)] (zk_U 2 D cA ad A b 53 σ)) (zk_Q 2 D cA ad A b 53 (zk_f_Statement_init_53 σ)) 0 0 A := by
  refine Met.ofW (cc := prog_8_method_1_code) (maxL := 1) (ret := none) (by decide) rfl ?_
  intro p e s m args below meth c s₁ B hml hv
  obtain ⟨hargs, hP, hK, hD, hZ, hz, hd, hO⟩ := hv
  have G : zk_G 2 p s m args c prog_8_method_1_code 1 "ScheduleCheck$Statement" D cA ad A b := ⟨⟨B.exec, B.bytes, hml, findClass_of_methodNamed B.named, fun w h => atoms_spec B.pre w (List.mem_cons_of_mem _ h)⟩, hK, hJ, hZ, had, hA, hO⟩
  have hw : zk_I 2 D cA ad A s b 53 σ s.heap [] := ⟨hP, hD, va_S.rf, hz, hd⟩
  have hx := G.1.1
  have hb := G.1.2.1
  have hown := G.1.2.2.2.1
  have hts := G.1.2.2.2.2
  have hr := B.returns
  have hlocks := B.notSynchronized
  have hin : meth.name = "<init>" := (name_of_methodNamed B.named B.method).1
  have he : entryFrame m args 1 = F0 m 0 ((lg_sl [.ref (ad 53)] ++ List.replicate (1 - (lg_sl [.ref (ad 53)]).length) Slot.unset).toArray) [] := by rw [hargs]; exact lg_entry_eq m _ 1
  have hl := lv_entry [.ref (ad 53)] (n := 1) (Nat.le_of_ble_eq_true rfl)
  rw [he]
  generalize (lg_sl [.ref (ad 53)] ++ List.replicate (1 - (lg_sl [.ref (ad 53)]).length) Slot.unset).toArray = ls at hl
  have hl : lv_has ls 1 [(0, .ref (ad 53))] := hl
  obtain ⟨RR, hR⟩ : ∃ z, z = (headSpec (.code y_Statement_init prog_8_method_1_code 1 none :: zd_ww) { frames := 1, cells := 0, slots := 0, locals := 30 }).room := ⟨_, rfl⟩
  rw [← hR]
  obtain ⟨QQ, hQ⟩ : ∃ z, z = MQ below (zk_Q 2 D cA ad A b 53 (zk_f_Statement_init_53 σ)) args s 0 0 A := ⟨_, rfl⟩
  rw [← hQ]
  have hR1 : 1 ≤ RR.frames := by rw [hR]; exact Nat.le_refl _
  have hR2 : 30 ≤ RR.locals := by rw [hR]; exact Nat.le_refl _
  have hR3 : 0 ≤ RR.cells := by rw [hR]; exact Nat.le_refl _
  have hR4 : 0 ≤ RR.slots := by rw [hR]; exact Nat.le_refl _
  generalize s.heap = H at hw ⊢
  generalize ([] : List Loc) = locs at hw ⊢
  refine lv_aload_n hx hb d_Statement_init_0 rfl (lv_at hl 0 rfl) ?_
  refine W.objInit hx hb hown (hts _ zn2_57) (hts _ zn2_1) (hts _ zn2_2) rfl (by rw [hml]; exact hl.1) rfl d_Statement_init_1 (Nat.le_trans (by decide) hR1) (Nat.le_trans (Nat.le_of_ble_eq_true rfl) hR2) ?_
  refine W.eq (g2 := F0 m 4 ls []) rfl ?_
  refine lv_aload_n hx hb d_Statement_init_4 rfl (lv_at hl 0 rfl) ?_
  refine va_gets (C := "ScheduleCheck$Kind") (n := "STOP") (d := "LScheduleCheck$Kind;") (v := .ref (ad 1109)) hx hb ((G.2.2.2.1.1 rfl).2.2.1.1 9 (by decide)).1 hw.2.2.1 hown (hts _ zn2_58) (fun _ h => h) d_Statement_init_5 ?_
  refine zk_putr (ci := 6) G hw 53 0 (by decide) (by decide) zi_6 t_zd6 t_zd6_ok n_zd6 rfl rfl rfl (by decide) rfl zn2_59 (fun _ h => h) rfl  (x := 1109) (by decide) (t_zd6_ok 0 (by decide)) rfl rfl d_Statement_init_8 (fun H locs hw => ?_)
  exact zk_vret G hw hr hlocks hQ d_Statement_init_11
def zk_f_Statement_init_54 (σ : zs_S) : zs_S := (zs_wr σ 54 0 1109)
set_option maxHeartbeats 8000000 in
set_option maxRecDepth 100000 in
theorem zk_Statement_init_54 {l : Launch} {D : va_G} {cA : Nat → ClassId} {ad : Nat → Nat} {A : Nat → Prop} {b : Nat} {σ : zs_S} (hJ : zs_J ad) (had : ∀ o, 1 ≤ o → o ≤ zd_M 2 → ad o = b + (o - 1)) (hA : ∀ q, b ≤ q → A q) : Met l y_Statement_init (.code y_Statement_init prog_8_method_1_code 1 none :: zd_ww) { frames := 1, cells := 0, slots := 0, locals := 30 } (va_Pc [.ref (ad 54)] (zk_U 2 D cA ad A b 54 σ)) (zk_Q 2 D cA ad A b 54 (zk_f_Statement_init_54 σ)) 0 0 A := by
  refine Met.ofW (cc := prog_8_method_1_code) (maxL := 1) (ret := none) (by decide) rfl ?_
  intro p e s m args below meth c s₁ B hml hv
  obtain ⟨hargs, hP, hK, hD, hZ, hz, hd, hO⟩ := hv
  have G : zk_G 2 p s m args c prog_8_method_1_code 1 "ScheduleCheck$Statement" D cA ad A b := ⟨⟨B.exec, B.bytes, hml, findClass_of_methodNamed B.named, fun w h => atoms_spec B.pre w (List.mem_cons_of_mem _ h)⟩, hK, hJ, hZ, had, hA, hO⟩
  have hw : zk_I 2 D cA ad A s b 54 σ s.heap [] := ⟨hP, hD, va_S.rf, hz, hd⟩
  have hx := G.1.1
  have hb := G.1.2.1
  have hown := G.1.2.2.2.1
  have hts := G.1.2.2.2.2
  have hr := B.returns
  have hlocks := B.notSynchronized
  have hin : meth.name = "<init>" := (name_of_methodNamed B.named B.method).1
  have he : entryFrame m args 1 = F0 m 0 ((lg_sl [.ref (ad 54)] ++ List.replicate (1 - (lg_sl [.ref (ad 54)]).length) Slot.unset).toArray) [] := by rw [hargs]; exact lg_entry_eq m _ 1
  have hl := lv_entry [.ref (ad 54)] (n := 1) (Nat.le_of_ble_eq_true rfl)
  rw [he]
  generalize (lg_sl [.ref (ad 54)] ++ List.replicate (1 - (lg_sl [.ref (ad 54)]).length) Slot.unset).toArray = ls at hl
  have hl : lv_has ls 1 [(0, .ref (ad 54))] := hl
  obtain ⟨RR, hR⟩ : ∃ z, z = (headSpec (.code y_Statement_init prog_8_method_1_code 1 none :: zd_ww) { frames := 1, cells := 0, slots := 0, locals := 30 }).room := ⟨_, rfl⟩
  rw [← hR]
  obtain ⟨QQ, hQ⟩ : ∃ z, z = MQ below (zk_Q 2 D cA ad A b 54 (zk_f_Statement_init_54 σ)) args s 0 0 A := ⟨_, rfl⟩
  rw [← hQ]
  have hR1 : 1 ≤ RR.frames := by rw [hR]; exact Nat.le_refl _
  have hR2 : 30 ≤ RR.locals := by rw [hR]; exact Nat.le_refl _
  have hR3 : 0 ≤ RR.cells := by rw [hR]; exact Nat.le_refl _
  have hR4 : 0 ≤ RR.slots := by rw [hR]; exact Nat.le_refl _
  generalize s.heap = H at hw ⊢
  generalize ([] : List Loc) = locs at hw ⊢
  refine lv_aload_n hx hb d_Statement_init_0 rfl (lv_at hl 0 rfl) ?_
  refine W.objInit hx hb hown (hts _ zn2_57) (hts _ zn2_1) (hts _ zn2_2) rfl (by rw [hml]; exact hl.1) rfl d_Statement_init_1 (Nat.le_trans (by decide) hR1) (Nat.le_trans (Nat.le_of_ble_eq_true rfl) hR2) ?_
  refine W.eq (g2 := F0 m 4 ls []) rfl ?_
  refine lv_aload_n hx hb d_Statement_init_4 rfl (lv_at hl 0 rfl) ?_
  refine va_gets (C := "ScheduleCheck$Kind") (n := "STOP") (d := "LScheduleCheck$Kind;") (v := .ref (ad 1109)) hx hb ((G.2.2.2.1.1 rfl).2.2.1.1 9 (by decide)).1 hw.2.2.1 hown (hts _ zn2_58) (fun _ h => h) d_Statement_init_5 ?_
  refine zk_putr (ci := 6) G hw 54 0 (by decide) (by decide) zi_6 t_zd6 t_zd6_ok n_zd6 rfl rfl rfl (by decide) rfl zn2_59 (fun _ h => h) rfl  (x := 1109) (by decide) (t_zd6_ok 0 (by decide)) rfl rfl d_Statement_init_8 (fun H locs hw => ?_)
  exact zk_vret G hw hr hlocks hQ d_Statement_init_11
def zk_f_Statement_init_55 (σ : zs_S) : zs_S := (zs_wr σ 55 0 1109)
set_option maxHeartbeats 8000000 in
set_option maxRecDepth 100000 in
theorem zk_Statement_init_55 {l : Launch} {D : va_G} {cA : Nat → ClassId} {ad : Nat → Nat} {A : Nat → Prop} {b : Nat} {σ : zs_S} (hJ : zs_J ad) (had : ∀ o, 1 ≤ o → o ≤ zd_M 2 → ad o = b + (o - 1)) (hA : ∀ q, b ≤ q → A q) : Met l y_Statement_init (.code y_Statement_init prog_8_method_1_code 1 none :: zd_ww) { frames := 1, cells := 0, slots := 0, locals := 30 } (va_Pc [.ref (ad 55)] (zk_U 2 D cA ad A b 55 σ)) (zk_Q 2 D cA ad A b 55 (zk_f_Statement_init_55 σ)) 0 0 A := by
  refine Met.ofW (cc := prog_8_method_1_code) (maxL := 1) (ret := none) (by decide) rfl ?_
  intro p e s m args below meth c s₁ B hml hv
  obtain ⟨hargs, hP, hK, hD, hZ, hz, hd, hO⟩ := hv
  have G : zk_G 2 p s m args c prog_8_method_1_code 1 "ScheduleCheck$Statement" D cA ad A b := ⟨⟨B.exec, B.bytes, hml, findClass_of_methodNamed B.named, fun w h => atoms_spec B.pre w (List.mem_cons_of_mem _ h)⟩, hK, hJ, hZ, had, hA, hO⟩
  have hw : zk_I 2 D cA ad A s b 55 σ s.heap [] := ⟨hP, hD, va_S.rf, hz, hd⟩
  have hx := G.1.1
  have hb := G.1.2.1
  have hown := G.1.2.2.2.1
  have hts := G.1.2.2.2.2
  have hr := B.returns
  have hlocks := B.notSynchronized
  have hin : meth.name = "<init>" := (name_of_methodNamed B.named B.method).1
  have he : entryFrame m args 1 = F0 m 0 ((lg_sl [.ref (ad 55)] ++ List.replicate (1 - (lg_sl [.ref (ad 55)]).length) Slot.unset).toArray) [] := by rw [hargs]; exact lg_entry_eq m _ 1
  have hl := lv_entry [.ref (ad 55)] (n := 1) (Nat.le_of_ble_eq_true rfl)
  rw [he]
  generalize (lg_sl [.ref (ad 55)] ++ List.replicate (1 - (lg_sl [.ref (ad 55)]).length) Slot.unset).toArray = ls at hl
  have hl : lv_has ls 1 [(0, .ref (ad 55))] := hl
  obtain ⟨RR, hR⟩ : ∃ z, z = (headSpec (.code y_Statement_init prog_8_method_1_code 1 none :: zd_ww) { frames := 1, cells := 0, slots := 0, locals := 30 }).room := ⟨_, rfl⟩
  rw [← hR]
  obtain ⟨QQ, hQ⟩ : ∃ z, z = MQ below (zk_Q 2 D cA ad A b 55 (zk_f_Statement_init_55 σ)) args s 0 0 A := ⟨_, rfl⟩
  rw [← hQ]
  have hR1 : 1 ≤ RR.frames := by rw [hR]; exact Nat.le_refl _
  have hR2 : 30 ≤ RR.locals := by rw [hR]; exact Nat.le_refl _
  have hR3 : 0 ≤ RR.cells := by rw [hR]; exact Nat.le_refl _
  have hR4 : 0 ≤ RR.slots := by rw [hR]; exact Nat.le_refl _
  generalize s.heap = H at hw ⊢
  generalize ([] : List Loc) = locs at hw ⊢
  refine lv_aload_n hx hb d_Statement_init_0 rfl (lv_at hl 0 rfl) ?_
  refine W.objInit hx hb hown (hts _ zn2_57) (hts _ zn2_1) (hts _ zn2_2) rfl (by rw [hml]; exact hl.1) rfl d_Statement_init_1 (Nat.le_trans (by decide) hR1) (Nat.le_trans (Nat.le_of_ble_eq_true rfl) hR2) ?_
  refine W.eq (g2 := F0 m 4 ls []) rfl ?_
  refine lv_aload_n hx hb d_Statement_init_4 rfl (lv_at hl 0 rfl) ?_
  refine va_gets (C := "ScheduleCheck$Kind") (n := "STOP") (d := "LScheduleCheck$Kind;") (v := .ref (ad 1109)) hx hb ((G.2.2.2.1.1 rfl).2.2.1.1 9 (by decide)).1 hw.2.2.1 hown (hts _ zn2_58) (fun _ h => h) d_Statement_init_5 ?_
  refine zk_putr (ci := 6) G hw 55 0 (by decide) (by decide) zi_6 t_zd6 t_zd6_ok n_zd6 rfl rfl rfl (by decide) rfl zn2_59 (fun _ h => h) rfl  (x := 1109) (by decide) (t_zd6_ok 0 (by decide)) rfl rfl d_Statement_init_8 (fun H locs hw => ?_)
  exact zk_vret G hw hr hlocks hQ d_Statement_init_11
def zk_f_Statement_init_56 (σ : zs_S) : zs_S := (zs_wr σ 56 0 1109)
set_option maxHeartbeats 8000000 in
set_option maxRecDepth 100000 in
theorem zk_Statement_init_56 {l : Launch} {D : va_G} {cA : Nat → ClassId} {ad : Nat → Nat} {A : Nat → Prop} {b : Nat} {σ : zs_S} (hJ : zs_J ad) (had : ∀ o, 1 ≤ o → o ≤ zd_M 2 → ad o = b + (o - 1)) (hA : ∀ q, b ≤ q → A q) : Met l y_Statement_init (.code y_Statement_init prog_8_method_1_code 1 none :: zd_ww) { frames := 1, cells := 0, slots := 0, locals := 30 } (va_Pc [.ref (ad 56)] (zk_U 2 D cA ad A b 56 σ)) (zk_Q 2 D cA ad A b 56 (zk_f_Statement_init_56 σ)) 0 0 A := by
  refine Met.ofW (cc := prog_8_method_1_code) (maxL := 1) (ret := none) (by decide) rfl ?_
  intro p e s m args below meth c s₁ B hml hv
  obtain ⟨hargs, hP, hK, hD, hZ, hz, hd, hO⟩ := hv
  have G : zk_G 2 p s m args c prog_8_method_1_code 1 "ScheduleCheck$Statement" D cA ad A b := ⟨⟨B.exec, B.bytes, hml, findClass_of_methodNamed B.named, fun w h => atoms_spec B.pre w (List.mem_cons_of_mem _ h)⟩, hK, hJ, hZ, had, hA, hO⟩
  have hw : zk_I 2 D cA ad A s b 56 σ s.heap [] := ⟨hP, hD, va_S.rf, hz, hd⟩
  have hx := G.1.1
  have hb := G.1.2.1
  have hown := G.1.2.2.2.1
  have hts := G.1.2.2.2.2
  have hr := B.returns
  have hlocks := B.notSynchronized
  have hin : meth.name = "<init>" := (name_of_methodNamed B.named B.method).1
  have he : entryFrame m args 1 = F0 m 0 ((lg_sl [.ref (ad 56)] ++ List.replicate (1 - (lg_sl [.ref (ad 56)]).length) Slot.unset).toArray) [] := by rw [hargs]; exact lg_entry_eq m _ 1
  have hl := lv_entry [.ref (ad 56)] (n := 1) (Nat.le_of_ble_eq_true rfl)
  rw [he]
  generalize (lg_sl [.ref (ad 56)] ++ List.replicate (1 - (lg_sl [.ref (ad 56)]).length) Slot.unset).toArray = ls at hl
  have hl : lv_has ls 1 [(0, .ref (ad 56))] := hl
  obtain ⟨RR, hR⟩ : ∃ z, z = (headSpec (.code y_Statement_init prog_8_method_1_code 1 none :: zd_ww) { frames := 1, cells := 0, slots := 0, locals := 30 }).room := ⟨_, rfl⟩
  rw [← hR]
  obtain ⟨QQ, hQ⟩ : ∃ z, z = MQ below (zk_Q 2 D cA ad A b 56 (zk_f_Statement_init_56 σ)) args s 0 0 A := ⟨_, rfl⟩
  rw [← hQ]
  have hR1 : 1 ≤ RR.frames := by rw [hR]; exact Nat.le_refl _
  have hR2 : 30 ≤ RR.locals := by rw [hR]; exact Nat.le_refl _
  have hR3 : 0 ≤ RR.cells := by rw [hR]; exact Nat.le_refl _
  have hR4 : 0 ≤ RR.slots := by rw [hR]; exact Nat.le_refl _
  generalize s.heap = H at hw ⊢
  generalize ([] : List Loc) = locs at hw ⊢
  refine lv_aload_n hx hb d_Statement_init_0 rfl (lv_at hl 0 rfl) ?_
  refine W.objInit hx hb hown (hts _ zn2_57) (hts _ zn2_1) (hts _ zn2_2) rfl (by rw [hml]; exact hl.1) rfl d_Statement_init_1 (Nat.le_trans (by decide) hR1) (Nat.le_trans (Nat.le_of_ble_eq_true rfl) hR2) ?_
  refine W.eq (g2 := F0 m 4 ls []) rfl ?_
  refine lv_aload_n hx hb d_Statement_init_4 rfl (lv_at hl 0 rfl) ?_
  refine va_gets (C := "ScheduleCheck$Kind") (n := "STOP") (d := "LScheduleCheck$Kind;") (v := .ref (ad 1109)) hx hb ((G.2.2.2.1.1 rfl).2.2.1.1 9 (by decide)).1 hw.2.2.1 hown (hts _ zn2_58) (fun _ h => h) d_Statement_init_5 ?_
  refine zk_putr (ci := 6) G hw 56 0 (by decide) (by decide) zi_6 t_zd6 t_zd6_ok n_zd6 rfl rfl rfl (by decide) rfl zn2_59 (fun _ h => h) rfl  (x := 1109) (by decide) (t_zd6_ok 0 (by decide)) rfl rfl d_Statement_init_8 (fun H locs hw => ?_)
  exact zk_vret G hw hr hlocks hQ d_Statement_init_11
def zk_f_Statement_init_57 (σ : zs_S) : zs_S := (zs_wr σ 57 0 1109)
set_option maxHeartbeats 8000000 in
set_option maxRecDepth 100000 in
theorem zk_Statement_init_57 {l : Launch} {D : va_G} {cA : Nat → ClassId} {ad : Nat → Nat} {A : Nat → Prop} {b : Nat} {σ : zs_S} (hJ : zs_J ad) (had : ∀ o, 1 ≤ o → o ≤ zd_M 2 → ad o = b + (o - 1)) (hA : ∀ q, b ≤ q → A q) : Met l y_Statement_init (.code y_Statement_init prog_8_method_1_code 1 none :: zd_ww) { frames := 1, cells := 0, slots := 0, locals := 30 } (va_Pc [.ref (ad 57)] (zk_U 2 D cA ad A b 57 σ)) (zk_Q 2 D cA ad A b 57 (zk_f_Statement_init_57 σ)) 0 0 A := by
  refine Met.ofW (cc := prog_8_method_1_code) (maxL := 1) (ret := none) (by decide) rfl ?_
  intro p e s m args below meth c s₁ B hml hv
  obtain ⟨hargs, hP, hK, hD, hZ, hz, hd, hO⟩ := hv
  have G : zk_G 2 p s m args c prog_8_method_1_code 1 "ScheduleCheck$Statement" D cA ad A b := ⟨⟨B.exec, B.bytes, hml, findClass_of_methodNamed B.named, fun w h => atoms_spec B.pre w (List.mem_cons_of_mem _ h)⟩, hK, hJ, hZ, had, hA, hO⟩
  have hw : zk_I 2 D cA ad A s b 57 σ s.heap [] := ⟨hP, hD, va_S.rf, hz, hd⟩
  have hx := G.1.1
  have hb := G.1.2.1
  have hown := G.1.2.2.2.1
  have hts := G.1.2.2.2.2
  have hr := B.returns
  have hlocks := B.notSynchronized
  have hin : meth.name = "<init>" := (name_of_methodNamed B.named B.method).1
  have he : entryFrame m args 1 = F0 m 0 ((lg_sl [.ref (ad 57)] ++ List.replicate (1 - (lg_sl [.ref (ad 57)]).length) Slot.unset).toArray) [] := by rw [hargs]; exact lg_entry_eq m _ 1
  have hl := lv_entry [.ref (ad 57)] (n := 1) (Nat.le_of_ble_eq_true rfl)
  rw [he]
  generalize (lg_sl [.ref (ad 57)] ++ List.replicate (1 - (lg_sl [.ref (ad 57)]).length) Slot.unset).toArray = ls at hl
  have hl : lv_has ls 1 [(0, .ref (ad 57))] := hl
  obtain ⟨RR, hR⟩ : ∃ z, z = (headSpec (.code y_Statement_init prog_8_method_1_code 1 none :: zd_ww) { frames := 1, cells := 0, slots := 0, locals := 30 }).room := ⟨_, rfl⟩
  rw [← hR]
  obtain ⟨QQ, hQ⟩ : ∃ z, z = MQ below (zk_Q 2 D cA ad A b 57 (zk_f_Statement_init_57 σ)) args s 0 0 A := ⟨_, rfl⟩
  rw [← hQ]
  have hR1 : 1 ≤ RR.frames := by rw [hR]; exact Nat.le_refl _
  have hR2 : 30 ≤ RR.locals := by rw [hR]; exact Nat.le_refl _
  have hR3 : 0 ≤ RR.cells := by rw [hR]; exact Nat.le_refl _
  have hR4 : 0 ≤ RR.slots := by rw [hR]; exact Nat.le_refl _
  generalize s.heap = H at hw ⊢
  generalize ([] : List Loc) = locs at hw ⊢
  refine lv_aload_n hx hb d_Statement_init_0 rfl (lv_at hl 0 rfl) ?_
  refine W.objInit hx hb hown (hts _ zn2_57) (hts _ zn2_1) (hts _ zn2_2) rfl (by rw [hml]; exact hl.1) rfl d_Statement_init_1 (Nat.le_trans (by decide) hR1) (Nat.le_trans (Nat.le_of_ble_eq_true rfl) hR2) ?_
  refine W.eq (g2 := F0 m 4 ls []) rfl ?_
  refine lv_aload_n hx hb d_Statement_init_4 rfl (lv_at hl 0 rfl) ?_
  refine va_gets (C := "ScheduleCheck$Kind") (n := "STOP") (d := "LScheduleCheck$Kind;") (v := .ref (ad 1109)) hx hb ((G.2.2.2.1.1 rfl).2.2.1.1 9 (by decide)).1 hw.2.2.1 hown (hts _ zn2_58) (fun _ h => h) d_Statement_init_5 ?_
  refine zk_putr (ci := 6) G hw 57 0 (by decide) (by decide) zi_6 t_zd6 t_zd6_ok n_zd6 rfl rfl rfl (by decide) rfl zn2_59 (fun _ h => h) rfl  (x := 1109) (by decide) (t_zd6_ok 0 (by decide)) rfl rfl d_Statement_init_8 (fun H locs hw => ?_)
  exact zk_vret G hw hr hlocks hQ d_Statement_init_11
def zk_f_Statement_init_58 (σ : zs_S) : zs_S := (zs_wr σ 58 0 1109)
set_option maxHeartbeats 8000000 in
set_option maxRecDepth 100000 in
theorem zk_Statement_init_58 {l : Launch} {D : va_G} {cA : Nat → ClassId} {ad : Nat → Nat} {A : Nat → Prop} {b : Nat} {σ : zs_S} (hJ : zs_J ad) (had : ∀ o, 1 ≤ o → o ≤ zd_M 2 → ad o = b + (o - 1)) (hA : ∀ q, b ≤ q → A q) : Met l y_Statement_init (.code y_Statement_init prog_8_method_1_code 1 none :: zd_ww) { frames := 1, cells := 0, slots := 0, locals := 30 } (va_Pc [.ref (ad 58)] (zk_U 2 D cA ad A b 58 σ)) (zk_Q 2 D cA ad A b 58 (zk_f_Statement_init_58 σ)) 0 0 A := by
  refine Met.ofW (cc := prog_8_method_1_code) (maxL := 1) (ret := none) (by decide) rfl ?_
  intro p e s m args below meth c s₁ B hml hv
  obtain ⟨hargs, hP, hK, hD, hZ, hz, hd, hO⟩ := hv
  have G : zk_G 2 p s m args c prog_8_method_1_code 1 "ScheduleCheck$Statement" D cA ad A b := ⟨⟨B.exec, B.bytes, hml, findClass_of_methodNamed B.named, fun w h => atoms_spec B.pre w (List.mem_cons_of_mem _ h)⟩, hK, hJ, hZ, had, hA, hO⟩
  have hw : zk_I 2 D cA ad A s b 58 σ s.heap [] := ⟨hP, hD, va_S.rf, hz, hd⟩
  have hx := G.1.1
  have hb := G.1.2.1
  have hown := G.1.2.2.2.1
  have hts := G.1.2.2.2.2
  have hr := B.returns
  have hlocks := B.notSynchronized
  have hin : meth.name = "<init>" := (name_of_methodNamed B.named B.method).1
  have he : entryFrame m args 1 = F0 m 0 ((lg_sl [.ref (ad 58)] ++ List.replicate (1 - (lg_sl [.ref (ad 58)]).length) Slot.unset).toArray) [] := by rw [hargs]; exact lg_entry_eq m _ 1
  have hl := lv_entry [.ref (ad 58)] (n := 1) (Nat.le_of_ble_eq_true rfl)
  rw [he]
  generalize (lg_sl [.ref (ad 58)] ++ List.replicate (1 - (lg_sl [.ref (ad 58)]).length) Slot.unset).toArray = ls at hl
  have hl : lv_has ls 1 [(0, .ref (ad 58))] := hl
  obtain ⟨RR, hR⟩ : ∃ z, z = (headSpec (.code y_Statement_init prog_8_method_1_code 1 none :: zd_ww) { frames := 1, cells := 0, slots := 0, locals := 30 }).room := ⟨_, rfl⟩
  rw [← hR]
  obtain ⟨QQ, hQ⟩ : ∃ z, z = MQ below (zk_Q 2 D cA ad A b 58 (zk_f_Statement_init_58 σ)) args s 0 0 A := ⟨_, rfl⟩
  rw [← hQ]
  have hR1 : 1 ≤ RR.frames := by rw [hR]; exact Nat.le_refl _
  have hR2 : 30 ≤ RR.locals := by rw [hR]; exact Nat.le_refl _
  have hR3 : 0 ≤ RR.cells := by rw [hR]; exact Nat.le_refl _
  have hR4 : 0 ≤ RR.slots := by rw [hR]; exact Nat.le_refl _
  generalize s.heap = H at hw ⊢
  generalize ([] : List Loc) = locs at hw ⊢
  refine lv_aload_n hx hb d_Statement_init_0 rfl (lv_at hl 0 rfl) ?_
  refine W.objInit hx hb hown (hts _ zn2_57) (hts _ zn2_1) (hts _ zn2_2) rfl (by rw [hml]; exact hl.1) rfl d_Statement_init_1 (Nat.le_trans (by decide) hR1) (Nat.le_trans (Nat.le_of_ble_eq_true rfl) hR2) ?_
  refine W.eq (g2 := F0 m 4 ls []) rfl ?_
  refine lv_aload_n hx hb d_Statement_init_4 rfl (lv_at hl 0 rfl) ?_
  refine va_gets (C := "ScheduleCheck$Kind") (n := "STOP") (d := "LScheduleCheck$Kind;") (v := .ref (ad 1109)) hx hb ((G.2.2.2.1.1 rfl).2.2.1.1 9 (by decide)).1 hw.2.2.1 hown (hts _ zn2_58) (fun _ h => h) d_Statement_init_5 ?_
  refine zk_putr (ci := 6) G hw 58 0 (by decide) (by decide) zi_6 t_zd6 t_zd6_ok n_zd6 rfl rfl rfl (by decide) rfl zn2_59 (fun _ h => h) rfl  (x := 1109) (by decide) (t_zd6_ok 0 (by decide)) rfl rfl d_Statement_init_8 (fun H locs hw => ?_)
  exact zk_vret G hw hr hlocks hQ d_Statement_init_11
def zk_f_Statement_init_59 (σ : zs_S) : zs_S := (zs_wr σ 59 0 1109)
set_option maxHeartbeats 8000000 in
set_option maxRecDepth 100000 in
theorem zk_Statement_init_59 {l : Launch} {D : va_G} {cA : Nat → ClassId} {ad : Nat → Nat} {A : Nat → Prop} {b : Nat} {σ : zs_S} (hJ : zs_J ad) (had : ∀ o, 1 ≤ o → o ≤ zd_M 2 → ad o = b + (o - 1)) (hA : ∀ q, b ≤ q → A q) : Met l y_Statement_init (.code y_Statement_init prog_8_method_1_code 1 none :: zd_ww) { frames := 1, cells := 0, slots := 0, locals := 30 } (va_Pc [.ref (ad 59)] (zk_U 2 D cA ad A b 59 σ)) (zk_Q 2 D cA ad A b 59 (zk_f_Statement_init_59 σ)) 0 0 A := by
  refine Met.ofW (cc := prog_8_method_1_code) (maxL := 1) (ret := none) (by decide) rfl ?_
  intro p e s m args below meth c s₁ B hml hv
  obtain ⟨hargs, hP, hK, hD, hZ, hz, hd, hO⟩ := hv
  have G : zk_G 2 p s m args c prog_8_method_1_code 1 "ScheduleCheck$Statement" D cA ad A b := ⟨⟨B.exec, B.bytes, hml, findClass_of_methodNamed B.named, fun w h => atoms_spec B.pre w (List.mem_cons_of_mem _ h)⟩, hK, hJ, hZ, had, hA, hO⟩
  have hw : zk_I 2 D cA ad A s b 59 σ s.heap [] := ⟨hP, hD, va_S.rf, hz, hd⟩
  have hx := G.1.1
  have hb := G.1.2.1
  have hown := G.1.2.2.2.1
  have hts := G.1.2.2.2.2
  have hr := B.returns
  have hlocks := B.notSynchronized
  have hin : meth.name = "<init>" := (name_of_methodNamed B.named B.method).1
  have he : entryFrame m args 1 = F0 m 0 ((lg_sl [.ref (ad 59)] ++ List.replicate (1 - (lg_sl [.ref (ad 59)]).length) Slot.unset).toArray) [] := by rw [hargs]; exact lg_entry_eq m _ 1
  have hl := lv_entry [.ref (ad 59)] (n := 1) (Nat.le_of_ble_eq_true rfl)
  rw [he]
  generalize (lg_sl [.ref (ad 59)] ++ List.replicate (1 - (lg_sl [.ref (ad 59)]).length) Slot.unset).toArray = ls at hl
  have hl : lv_has ls 1 [(0, .ref (ad 59))] := hl
  obtain ⟨RR, hR⟩ : ∃ z, z = (headSpec (.code y_Statement_init prog_8_method_1_code 1 none :: zd_ww) { frames := 1, cells := 0, slots := 0, locals := 30 }).room := ⟨_, rfl⟩
  rw [← hR]
  obtain ⟨QQ, hQ⟩ : ∃ z, z = MQ below (zk_Q 2 D cA ad A b 59 (zk_f_Statement_init_59 σ)) args s 0 0 A := ⟨_, rfl⟩
  rw [← hQ]
  have hR1 : 1 ≤ RR.frames := by rw [hR]; exact Nat.le_refl _
  have hR2 : 30 ≤ RR.locals := by rw [hR]; exact Nat.le_refl _
  have hR3 : 0 ≤ RR.cells := by rw [hR]; exact Nat.le_refl _
  have hR4 : 0 ≤ RR.slots := by rw [hR]; exact Nat.le_refl _
  generalize s.heap = H at hw ⊢
  generalize ([] : List Loc) = locs at hw ⊢
  refine lv_aload_n hx hb d_Statement_init_0 rfl (lv_at hl 0 rfl) ?_
  refine W.objInit hx hb hown (hts _ zn2_57) (hts _ zn2_1) (hts _ zn2_2) rfl (by rw [hml]; exact hl.1) rfl d_Statement_init_1 (Nat.le_trans (by decide) hR1) (Nat.le_trans (Nat.le_of_ble_eq_true rfl) hR2) ?_
  refine W.eq (g2 := F0 m 4 ls []) rfl ?_
  refine lv_aload_n hx hb d_Statement_init_4 rfl (lv_at hl 0 rfl) ?_
  refine va_gets (C := "ScheduleCheck$Kind") (n := "STOP") (d := "LScheduleCheck$Kind;") (v := .ref (ad 1109)) hx hb ((G.2.2.2.1.1 rfl).2.2.1.1 9 (by decide)).1 hw.2.2.1 hown (hts _ zn2_58) (fun _ h => h) d_Statement_init_5 ?_
  refine zk_putr (ci := 6) G hw 59 0 (by decide) (by decide) zi_6 t_zd6 t_zd6_ok n_zd6 rfl rfl rfl (by decide) rfl zn2_59 (fun _ h => h) rfl  (x := 1109) (by decide) (t_zd6_ok 0 (by decide)) rfl rfl d_Statement_init_8 (fun H locs hw => ?_)
  exact zk_vret G hw hr hlocks hQ d_Statement_init_11
def zk_f_Statement_init_60 (σ : zs_S) : zs_S := (zs_wr σ 60 0 1109)
set_option maxHeartbeats 8000000 in
set_option maxRecDepth 100000 in
theorem zk_Statement_init_60 {l : Launch} {D : va_G} {cA : Nat → ClassId} {ad : Nat → Nat} {A : Nat → Prop} {b : Nat} {σ : zs_S} (hJ : zs_J ad) (had : ∀ o, 1 ≤ o → o ≤ zd_M 2 → ad o = b + (o - 1)) (hA : ∀ q, b ≤ q → A q) : Met l y_Statement_init (.code y_Statement_init prog_8_method_1_code 1 none :: zd_ww) { frames := 1, cells := 0, slots := 0, locals := 30 } (va_Pc [.ref (ad 60)] (zk_U 2 D cA ad A b 60 σ)) (zk_Q 2 D cA ad A b 60 (zk_f_Statement_init_60 σ)) 0 0 A := by
  refine Met.ofW (cc := prog_8_method_1_code) (maxL := 1) (ret := none) (by decide) rfl ?_
  intro p e s m args below meth c s₁ B hml hv
  obtain ⟨hargs, hP, hK, hD, hZ, hz, hd, hO⟩ := hv
  have G : zk_G 2 p s m args c prog_8_method_1_code 1 "ScheduleCheck$Statement" D cA ad A b := ⟨⟨B.exec, B.bytes, hml, findClass_of_methodNamed B.named, fun w h => atoms_spec B.pre w (List.mem_cons_of_mem _ h)⟩, hK, hJ, hZ, had, hA, hO⟩
  have hw : zk_I 2 D cA ad A s b 60 σ s.heap [] := ⟨hP, hD, va_S.rf, hz, hd⟩
  have hx := G.1.1
  have hb := G.1.2.1
  have hown := G.1.2.2.2.1
  have hts := G.1.2.2.2.2
  have hr := B.returns
  have hlocks := B.notSynchronized
  have hin : meth.name = "<init>" := (name_of_methodNamed B.named B.method).1
  have he : entryFrame m args 1 = F0 m 0 ((lg_sl [.ref (ad 60)] ++ List.replicate (1 - (lg_sl [.ref (ad 60)]).length) Slot.unset).toArray) [] := by rw [hargs]; exact lg_entry_eq m _ 1
  have hl := lv_entry [.ref (ad 60)] (n := 1) (Nat.le_of_ble_eq_true rfl)
  rw [he]
  generalize (lg_sl [.ref (ad 60)] ++ List.replicate (1 - (lg_sl [.ref (ad 60)]).length) Slot.unset).toArray = ls at hl
  have hl : lv_has ls 1 [(0, .ref (ad 60))] := hl
  obtain ⟨RR, hR⟩ : ∃ z, z = (headSpec (.code y_Statement_init prog_8_method_1_code 1 none :: zd_ww) { frames := 1, cells := 0, slots := 0, locals := 30 }).room := ⟨_, rfl⟩
  rw [← hR]
  obtain ⟨QQ, hQ⟩ : ∃ z, z = MQ below (zk_Q 2 D cA ad A b 60 (zk_f_Statement_init_60 σ)) args s 0 0 A := ⟨_, rfl⟩
  rw [← hQ]
  have hR1 : 1 ≤ RR.frames := by rw [hR]; exact Nat.le_refl _
  have hR2 : 30 ≤ RR.locals := by rw [hR]; exact Nat.le_refl _
  have hR3 : 0 ≤ RR.cells := by rw [hR]; exact Nat.le_refl _
  have hR4 : 0 ≤ RR.slots := by rw [hR]; exact Nat.le_refl _
  generalize s.heap = H at hw ⊢
  generalize ([] : List Loc) = locs at hw ⊢
  refine lv_aload_n hx hb d_Statement_init_0 rfl (lv_at hl 0 rfl) ?_
  refine W.objInit hx hb hown (hts _ zn2_57) (hts _ zn2_1) (hts _ zn2_2) rfl (by rw [hml]; exact hl.1) rfl d_Statement_init_1 (Nat.le_trans (by decide) hR1) (Nat.le_trans (Nat.le_of_ble_eq_true rfl) hR2) ?_
  refine W.eq (g2 := F0 m 4 ls []) rfl ?_
  refine lv_aload_n hx hb d_Statement_init_4 rfl (lv_at hl 0 rfl) ?_
  refine va_gets (C := "ScheduleCheck$Kind") (n := "STOP") (d := "LScheduleCheck$Kind;") (v := .ref (ad 1109)) hx hb ((G.2.2.2.1.1 rfl).2.2.1.1 9 (by decide)).1 hw.2.2.1 hown (hts _ zn2_58) (fun _ h => h) d_Statement_init_5 ?_
  refine zk_putr (ci := 6) G hw 60 0 (by decide) (by decide) zi_6 t_zd6 t_zd6_ok n_zd6 rfl rfl rfl (by decide) rfl zn2_59 (fun _ h => h) rfl  (x := 1109) (by decide) (t_zd6_ok 0 (by decide)) rfl rfl d_Statement_init_8 (fun H locs hw => ?_)
  exact zk_vret G hw hr hlocks hQ d_Statement_init_11
def zk_f_Statement_init_61 (σ : zs_S) : zs_S := (zs_wr σ 61 0 1109)
set_option maxHeartbeats 8000000 in
set_option maxRecDepth 100000 in
theorem zk_Statement_init_61 {l : Launch} {D : va_G} {cA : Nat → ClassId} {ad : Nat → Nat} {A : Nat → Prop} {b : Nat} {σ : zs_S} (hJ : zs_J ad) (had : ∀ o, 1 ≤ o → o ≤ zd_M 2 → ad o = b + (o - 1)) (hA : ∀ q, b ≤ q → A q) : Met l y_Statement_init (.code y_Statement_init prog_8_method_1_code 1 none :: zd_ww) { frames := 1, cells := 0, slots := 0, locals := 30 } (va_Pc [.ref (ad 61)] (zk_U 2 D cA ad A b 61 σ)) (zk_Q 2 D cA ad A b 61 (zk_f_Statement_init_61 σ)) 0 0 A := by
  refine Met.ofW (cc := prog_8_method_1_code) (maxL := 1) (ret := none) (by decide) rfl ?_
  intro p e s m args below meth c s₁ B hml hv
  obtain ⟨hargs, hP, hK, hD, hZ, hz, hd, hO⟩ := hv
  have G : zk_G 2 p s m args c prog_8_method_1_code 1 "ScheduleCheck$Statement" D cA ad A b := ⟨⟨B.exec, B.bytes, hml, findClass_of_methodNamed B.named, fun w h => atoms_spec B.pre w (List.mem_cons_of_mem _ h)⟩, hK, hJ, hZ, had, hA, hO⟩
  have hw : zk_I 2 D cA ad A s b 61 σ s.heap [] := ⟨hP, hD, va_S.rf, hz, hd⟩
  have hx := G.1.1
  have hb := G.1.2.1
  have hown := G.1.2.2.2.1
  have hts := G.1.2.2.2.2
  have hr := B.returns
  have hlocks := B.notSynchronized
  have hin : meth.name = "<init>" := (name_of_methodNamed B.named B.method).1
  have he : entryFrame m args 1 = F0 m 0 ((lg_sl [.ref (ad 61)] ++ List.replicate (1 - (lg_sl [.ref (ad 61)]).length) Slot.unset).toArray) [] := by rw [hargs]; exact lg_entry_eq m _ 1
  have hl := lv_entry [.ref (ad 61)] (n := 1) (Nat.le_of_ble_eq_true rfl)
  rw [he]
  generalize (lg_sl [.ref (ad 61)] ++ List.replicate (1 - (lg_sl [.ref (ad 61)]).length) Slot.unset).toArray = ls at hl
  have hl : lv_has ls 1 [(0, .ref (ad 61))] := hl
  obtain ⟨RR, hR⟩ : ∃ z, z = (headSpec (.code y_Statement_init prog_8_method_1_code 1 none :: zd_ww) { frames := 1, cells := 0, slots := 0, locals := 30 }).room := ⟨_, rfl⟩
  rw [← hR]
  obtain ⟨QQ, hQ⟩ : ∃ z, z = MQ below (zk_Q 2 D cA ad A b 61 (zk_f_Statement_init_61 σ)) args s 0 0 A := ⟨_, rfl⟩
  rw [← hQ]
  have hR1 : 1 ≤ RR.frames := by rw [hR]; exact Nat.le_refl _
  have hR2 : 30 ≤ RR.locals := by rw [hR]; exact Nat.le_refl _
  have hR3 : 0 ≤ RR.cells := by rw [hR]; exact Nat.le_refl _
  have hR4 : 0 ≤ RR.slots := by rw [hR]; exact Nat.le_refl _
  generalize s.heap = H at hw ⊢
  generalize ([] : List Loc) = locs at hw ⊢
  refine lv_aload_n hx hb d_Statement_init_0 rfl (lv_at hl 0 rfl) ?_
  refine W.objInit hx hb hown (hts _ zn2_57) (hts _ zn2_1) (hts _ zn2_2) rfl (by rw [hml]; exact hl.1) rfl d_Statement_init_1 (Nat.le_trans (by decide) hR1) (Nat.le_trans (Nat.le_of_ble_eq_true rfl) hR2) ?_
  refine W.eq (g2 := F0 m 4 ls []) rfl ?_
  refine lv_aload_n hx hb d_Statement_init_4 rfl (lv_at hl 0 rfl) ?_
  refine va_gets (C := "ScheduleCheck$Kind") (n := "STOP") (d := "LScheduleCheck$Kind;") (v := .ref (ad 1109)) hx hb ((G.2.2.2.1.1 rfl).2.2.1.1 9 (by decide)).1 hw.2.2.1 hown (hts _ zn2_58) (fun _ h => h) d_Statement_init_5 ?_
  refine zk_putr (ci := 6) G hw 61 0 (by decide) (by decide) zi_6 t_zd6 t_zd6_ok n_zd6 rfl rfl rfl (by decide) rfl zn2_59 (fun _ h => h) rfl  (x := 1109) (by decide) (t_zd6_ok 0 (by decide)) rfl rfl d_Statement_init_8 (fun H locs hw => ?_)
  exact zk_vret G hw hr hlocks hQ d_Statement_init_11
def zk_f_Statement_init_62 (σ : zs_S) : zs_S := (zs_wr σ 62 0 1109)
set_option maxHeartbeats 8000000 in
set_option maxRecDepth 100000 in
theorem zk_Statement_init_62 {l : Launch} {D : va_G} {cA : Nat → ClassId} {ad : Nat → Nat} {A : Nat → Prop} {b : Nat} {σ : zs_S} (hJ : zs_J ad) (had : ∀ o, 1 ≤ o → o ≤ zd_M 2 → ad o = b + (o - 1)) (hA : ∀ q, b ≤ q → A q) : Met l y_Statement_init (.code y_Statement_init prog_8_method_1_code 1 none :: zd_ww) { frames := 1, cells := 0, slots := 0, locals := 30 } (va_Pc [.ref (ad 62)] (zk_U 2 D cA ad A b 62 σ)) (zk_Q 2 D cA ad A b 62 (zk_f_Statement_init_62 σ)) 0 0 A := by
  refine Met.ofW (cc := prog_8_method_1_code) (maxL := 1) (ret := none) (by decide) rfl ?_
  intro p e s m args below meth c s₁ B hml hv
  obtain ⟨hargs, hP, hK, hD, hZ, hz, hd, hO⟩ := hv
  have G : zk_G 2 p s m args c prog_8_method_1_code 1 "ScheduleCheck$Statement" D cA ad A b := ⟨⟨B.exec, B.bytes, hml, findClass_of_methodNamed B.named, fun w h => atoms_spec B.pre w (List.mem_cons_of_mem _ h)⟩, hK, hJ, hZ, had, hA, hO⟩
  have hw : zk_I 2 D cA ad A s b 62 σ s.heap [] := ⟨hP, hD, va_S.rf, hz, hd⟩
  have hx := G.1.1
  have hb := G.1.2.1
  have hown := G.1.2.2.2.1
  have hts := G.1.2.2.2.2
  have hr := B.returns
  have hlocks := B.notSynchronized
  have hin : meth.name = "<init>" := (name_of_methodNamed B.named B.method).1
  have he : entryFrame m args 1 = F0 m 0 ((lg_sl [.ref (ad 62)] ++ List.replicate (1 - (lg_sl [.ref (ad 62)]).length) Slot.unset).toArray) [] := by rw [hargs]; exact lg_entry_eq m _ 1
  have hl := lv_entry [.ref (ad 62)] (n := 1) (Nat.le_of_ble_eq_true rfl)
  rw [he]
  generalize (lg_sl [.ref (ad 62)] ++ List.replicate (1 - (lg_sl [.ref (ad 62)]).length) Slot.unset).toArray = ls at hl
  have hl : lv_has ls 1 [(0, .ref (ad 62))] := hl
  obtain ⟨RR, hR⟩ : ∃ z, z = (headSpec (.code y_Statement_init prog_8_method_1_code 1 none :: zd_ww) { frames := 1, cells := 0, slots := 0, locals := 30 }).room := ⟨_, rfl⟩
  rw [← hR]
  obtain ⟨QQ, hQ⟩ : ∃ z, z = MQ below (zk_Q 2 D cA ad A b 62 (zk_f_Statement_init_62 σ)) args s 0 0 A := ⟨_, rfl⟩
  rw [← hQ]
  have hR1 : 1 ≤ RR.frames := by rw [hR]; exact Nat.le_refl _
  have hR2 : 30 ≤ RR.locals := by rw [hR]; exact Nat.le_refl _
  have hR3 : 0 ≤ RR.cells := by rw [hR]; exact Nat.le_refl _
  have hR4 : 0 ≤ RR.slots := by rw [hR]; exact Nat.le_refl _
  generalize s.heap = H at hw ⊢
  generalize ([] : List Loc) = locs at hw ⊢
  refine lv_aload_n hx hb d_Statement_init_0 rfl (lv_at hl 0 rfl) ?_
  refine W.objInit hx hb hown (hts _ zn2_57) (hts _ zn2_1) (hts _ zn2_2) rfl (by rw [hml]; exact hl.1) rfl d_Statement_init_1 (Nat.le_trans (by decide) hR1) (Nat.le_trans (Nat.le_of_ble_eq_true rfl) hR2) ?_
  refine W.eq (g2 := F0 m 4 ls []) rfl ?_
  refine lv_aload_n hx hb d_Statement_init_4 rfl (lv_at hl 0 rfl) ?_
  refine va_gets (C := "ScheduleCheck$Kind") (n := "STOP") (d := "LScheduleCheck$Kind;") (v := .ref (ad 1109)) hx hb ((G.2.2.2.1.1 rfl).2.2.1.1 9 (by decide)).1 hw.2.2.1 hown (hts _ zn2_58) (fun _ h => h) d_Statement_init_5 ?_
  refine zk_putr (ci := 6) G hw 62 0 (by decide) (by decide) zi_6 t_zd6 t_zd6_ok n_zd6 rfl rfl rfl (by decide) rfl zn2_59 (fun _ h => h) rfl  (x := 1109) (by decide) (t_zd6_ok 0 (by decide)) rfl rfl d_Statement_init_8 (fun H locs hw => ?_)
  exact zk_vret G hw hr hlocks hQ d_Statement_init_11
def zk_f_Statement_init_63 (σ : zs_S) : zs_S := (zs_wr σ 63 0 1109)
set_option maxHeartbeats 8000000 in
set_option maxRecDepth 100000 in
theorem zk_Statement_init_63 {l : Launch} {D : va_G} {cA : Nat → ClassId} {ad : Nat → Nat} {A : Nat → Prop} {b : Nat} {σ : zs_S} (hJ : zs_J ad) (had : ∀ o, 1 ≤ o → o ≤ zd_M 2 → ad o = b + (o - 1)) (hA : ∀ q, b ≤ q → A q) : Met l y_Statement_init (.code y_Statement_init prog_8_method_1_code 1 none :: zd_ww) { frames := 1, cells := 0, slots := 0, locals := 30 } (va_Pc [.ref (ad 63)] (zk_U 2 D cA ad A b 63 σ)) (zk_Q 2 D cA ad A b 63 (zk_f_Statement_init_63 σ)) 0 0 A := by
  refine Met.ofW (cc := prog_8_method_1_code) (maxL := 1) (ret := none) (by decide) rfl ?_
  intro p e s m args below meth c s₁ B hml hv
  obtain ⟨hargs, hP, hK, hD, hZ, hz, hd, hO⟩ := hv
  have G : zk_G 2 p s m args c prog_8_method_1_code 1 "ScheduleCheck$Statement" D cA ad A b := ⟨⟨B.exec, B.bytes, hml, findClass_of_methodNamed B.named, fun w h => atoms_spec B.pre w (List.mem_cons_of_mem _ h)⟩, hK, hJ, hZ, had, hA, hO⟩
  have hw : zk_I 2 D cA ad A s b 63 σ s.heap [] := ⟨hP, hD, va_S.rf, hz, hd⟩
  have hx := G.1.1
  have hb := G.1.2.1
  have hown := G.1.2.2.2.1
  have hts := G.1.2.2.2.2
  have hr := B.returns
  have hlocks := B.notSynchronized
  have hin : meth.name = "<init>" := (name_of_methodNamed B.named B.method).1
  have he : entryFrame m args 1 = F0 m 0 ((lg_sl [.ref (ad 63)] ++ List.replicate (1 - (lg_sl [.ref (ad 63)]).length) Slot.unset).toArray) [] := by rw [hargs]; exact lg_entry_eq m _ 1
  have hl := lv_entry [.ref (ad 63)] (n := 1) (Nat.le_of_ble_eq_true rfl)
  rw [he]
  generalize (lg_sl [.ref (ad 63)] ++ List.replicate (1 - (lg_sl [.ref (ad 63)]).length) Slot.unset).toArray = ls at hl
  have hl : lv_has ls 1 [(0, .ref (ad 63))] := hl
  obtain ⟨RR, hR⟩ : ∃ z, z = (headSpec (.code y_Statement_init prog_8_method_1_code 1 none :: zd_ww) { frames := 1, cells := 0, slots := 0, locals := 30 }).room := ⟨_, rfl⟩
  rw [← hR]
  obtain ⟨QQ, hQ⟩ : ∃ z, z = MQ below (zk_Q 2 D cA ad A b 63 (zk_f_Statement_init_63 σ)) args s 0 0 A := ⟨_, rfl⟩
  rw [← hQ]
  have hR1 : 1 ≤ RR.frames := by rw [hR]; exact Nat.le_refl _
  have hR2 : 30 ≤ RR.locals := by rw [hR]; exact Nat.le_refl _
  have hR3 : 0 ≤ RR.cells := by rw [hR]; exact Nat.le_refl _
  have hR4 : 0 ≤ RR.slots := by rw [hR]; exact Nat.le_refl _
  generalize s.heap = H at hw ⊢
  generalize ([] : List Loc) = locs at hw ⊢
  refine lv_aload_n hx hb d_Statement_init_0 rfl (lv_at hl 0 rfl) ?_
  refine W.objInit hx hb hown (hts _ zn2_57) (hts _ zn2_1) (hts _ zn2_2) rfl (by rw [hml]; exact hl.1) rfl d_Statement_init_1 (Nat.le_trans (by decide) hR1) (Nat.le_trans (Nat.le_of_ble_eq_true rfl) hR2) ?_
  refine W.eq (g2 := F0 m 4 ls []) rfl ?_
  refine lv_aload_n hx hb d_Statement_init_4 rfl (lv_at hl 0 rfl) ?_
  refine va_gets (C := "ScheduleCheck$Kind") (n := "STOP") (d := "LScheduleCheck$Kind;") (v := .ref (ad 1109)) hx hb ((G.2.2.2.1.1 rfl).2.2.1.1 9 (by decide)).1 hw.2.2.1 hown (hts _ zn2_58) (fun _ h => h) d_Statement_init_5 ?_
  refine zk_putr (ci := 6) G hw 63 0 (by decide) (by decide) zi_6 t_zd6 t_zd6_ok n_zd6 rfl rfl rfl (by decide) rfl zn2_59 (fun _ h => h) rfl  (x := 1109) (by decide) (t_zd6_ok 0 (by decide)) rfl rfl d_Statement_init_8 (fun H locs hw => ?_)
  exact zk_vret G hw hr hlocks hQ d_Statement_init_11
def zk_f_Statement_init_64 (σ : zs_S) : zs_S := (zs_wr σ 64 0 1109)
set_option maxHeartbeats 8000000 in
set_option maxRecDepth 100000 in
theorem zk_Statement_init_64 {l : Launch} {D : va_G} {cA : Nat → ClassId} {ad : Nat → Nat} {A : Nat → Prop} {b : Nat} {σ : zs_S} (hJ : zs_J ad) (had : ∀ o, 1 ≤ o → o ≤ zd_M 2 → ad o = b + (o - 1)) (hA : ∀ q, b ≤ q → A q) : Met l y_Statement_init (.code y_Statement_init prog_8_method_1_code 1 none :: zd_ww) { frames := 1, cells := 0, slots := 0, locals := 30 } (va_Pc [.ref (ad 64)] (zk_U 2 D cA ad A b 64 σ)) (zk_Q 2 D cA ad A b 64 (zk_f_Statement_init_64 σ)) 0 0 A := by
  refine Met.ofW (cc := prog_8_method_1_code) (maxL := 1) (ret := none) (by decide) rfl ?_
  intro p e s m args below meth c s₁ B hml hv
  obtain ⟨hargs, hP, hK, hD, hZ, hz, hd, hO⟩ := hv
  have G : zk_G 2 p s m args c prog_8_method_1_code 1 "ScheduleCheck$Statement" D cA ad A b := ⟨⟨B.exec, B.bytes, hml, findClass_of_methodNamed B.named, fun w h => atoms_spec B.pre w (List.mem_cons_of_mem _ h)⟩, hK, hJ, hZ, had, hA, hO⟩
  have hw : zk_I 2 D cA ad A s b 64 σ s.heap [] := ⟨hP, hD, va_S.rf, hz, hd⟩
  have hx := G.1.1
  have hb := G.1.2.1
  have hown := G.1.2.2.2.1
  have hts := G.1.2.2.2.2
  have hr := B.returns
  have hlocks := B.notSynchronized
  have hin : meth.name = "<init>" := (name_of_methodNamed B.named B.method).1
  have he : entryFrame m args 1 = F0 m 0 ((lg_sl [.ref (ad 64)] ++ List.replicate (1 - (lg_sl [.ref (ad 64)]).length) Slot.unset).toArray) [] := by rw [hargs]; exact lg_entry_eq m _ 1
  have hl := lv_entry [.ref (ad 64)] (n := 1) (Nat.le_of_ble_eq_true rfl)
  rw [he]
  generalize (lg_sl [.ref (ad 64)] ++ List.replicate (1 - (lg_sl [.ref (ad 64)]).length) Slot.unset).toArray = ls at hl
  have hl : lv_has ls 1 [(0, .ref (ad 64))] := hl
  obtain ⟨RR, hR⟩ : ∃ z, z = (headSpec (.code y_Statement_init prog_8_method_1_code 1 none :: zd_ww) { frames := 1, cells := 0, slots := 0, locals := 30 }).room := ⟨_, rfl⟩
  rw [← hR]
  obtain ⟨QQ, hQ⟩ : ∃ z, z = MQ below (zk_Q 2 D cA ad A b 64 (zk_f_Statement_init_64 σ)) args s 0 0 A := ⟨_, rfl⟩
  rw [← hQ]
  have hR1 : 1 ≤ RR.frames := by rw [hR]; exact Nat.le_refl _
  have hR2 : 30 ≤ RR.locals := by rw [hR]; exact Nat.le_refl _
  have hR3 : 0 ≤ RR.cells := by rw [hR]; exact Nat.le_refl _
  have hR4 : 0 ≤ RR.slots := by rw [hR]; exact Nat.le_refl _
  generalize s.heap = H at hw ⊢
  generalize ([] : List Loc) = locs at hw ⊢
  refine lv_aload_n hx hb d_Statement_init_0 rfl (lv_at hl 0 rfl) ?_
  refine W.objInit hx hb hown (hts _ zn2_57) (hts _ zn2_1) (hts _ zn2_2) rfl (by rw [hml]; exact hl.1) rfl d_Statement_init_1 (Nat.le_trans (by decide) hR1) (Nat.le_trans (Nat.le_of_ble_eq_true rfl) hR2) ?_
  refine W.eq (g2 := F0 m 4 ls []) rfl ?_
  refine lv_aload_n hx hb d_Statement_init_4 rfl (lv_at hl 0 rfl) ?_
  refine va_gets (C := "ScheduleCheck$Kind") (n := "STOP") (d := "LScheduleCheck$Kind;") (v := .ref (ad 1109)) hx hb ((G.2.2.2.1.1 rfl).2.2.1.1 9 (by decide)).1 hw.2.2.1 hown (hts _ zn2_58) (fun _ h => h) d_Statement_init_5 ?_
  refine zk_putr (ci := 6) G hw 64 0 (by decide) (by decide) zi_6 t_zd6 t_zd6_ok n_zd6 rfl rfl rfl (by decide) rfl zn2_59 (fun _ h => h) rfl  (x := 1109) (by decide) (t_zd6_ok 0 (by decide)) rfl rfl d_Statement_init_8 (fun H locs hw => ?_)
  exact zk_vret G hw hr hlocks hQ d_Statement_init_11
def zk_f_Statement_init_65 (σ : zs_S) : zs_S := (zs_wr σ 65 0 1109)
set_option maxHeartbeats 8000000 in
set_option maxRecDepth 100000 in
theorem zk_Statement_init_65 {l : Launch} {D : va_G} {cA : Nat → ClassId} {ad : Nat → Nat} {A : Nat → Prop} {b : Nat} {σ : zs_S} (hJ : zs_J ad) (had : ∀ o, 1 ≤ o → o ≤ zd_M 2 → ad o = b + (o - 1)) (hA : ∀ q, b ≤ q → A q) : Met l y_Statement_init (.code y_Statement_init prog_8_method_1_code 1 none :: zd_ww) { frames := 1, cells := 0, slots := 0, locals := 30 } (va_Pc [.ref (ad 65)] (zk_U 2 D cA ad A b 65 σ)) (zk_Q 2 D cA ad A b 65 (zk_f_Statement_init_65 σ)) 0 0 A := by
  refine Met.ofW (cc := prog_8_method_1_code) (maxL := 1) (ret := none) (by decide) rfl ?_
  intro p e s m args below meth c s₁ B hml hv
  obtain ⟨hargs, hP, hK, hD, hZ, hz, hd, hO⟩ := hv
  have G : zk_G 2 p s m args c prog_8_method_1_code 1 "ScheduleCheck$Statement" D cA ad A b := ⟨⟨B.exec, B.bytes, hml, findClass_of_methodNamed B.named, fun w h => atoms_spec B.pre w (List.mem_cons_of_mem _ h)⟩, hK, hJ, hZ, had, hA, hO⟩
  have hw : zk_I 2 D cA ad A s b 65 σ s.heap [] := ⟨hP, hD, va_S.rf, hz, hd⟩
  have hx := G.1.1
  have hb := G.1.2.1
  have hown := G.1.2.2.2.1
  have hts := G.1.2.2.2.2
  have hr := B.returns
  have hlocks := B.notSynchronized
  have hin : meth.name = "<init>" := (name_of_methodNamed B.named B.method).1
  have he : entryFrame m args 1 = F0 m 0 ((lg_sl [.ref (ad 65)] ++ List.replicate (1 - (lg_sl [.ref (ad 65)]).length) Slot.unset).toArray) [] := by rw [hargs]; exact lg_entry_eq m _ 1
  have hl := lv_entry [.ref (ad 65)] (n := 1) (Nat.le_of_ble_eq_true rfl)
  rw [he]
  generalize (lg_sl [.ref (ad 65)] ++ List.replicate (1 - (lg_sl [.ref (ad 65)]).length) Slot.unset).toArray = ls at hl
  have hl : lv_has ls 1 [(0, .ref (ad 65))] := hl
  obtain ⟨RR, hR⟩ : ∃ z, z = (headSpec (.code y_Statement_init prog_8_method_1_code 1 none :: zd_ww) { frames := 1, cells := 0, slots := 0, locals := 30 }).room := ⟨_, rfl⟩
  rw [← hR]
  obtain ⟨QQ, hQ⟩ : ∃ z, z = MQ below (zk_Q 2 D cA ad A b 65 (zk_f_Statement_init_65 σ)) args s 0 0 A := ⟨_, rfl⟩
  rw [← hQ]
  have hR1 : 1 ≤ RR.frames := by rw [hR]; exact Nat.le_refl _
  have hR2 : 30 ≤ RR.locals := by rw [hR]; exact Nat.le_refl _
  have hR3 : 0 ≤ RR.cells := by rw [hR]; exact Nat.le_refl _
  have hR4 : 0 ≤ RR.slots := by rw [hR]; exact Nat.le_refl _
  generalize s.heap = H at hw ⊢
  generalize ([] : List Loc) = locs at hw ⊢
  refine lv_aload_n hx hb d_Statement_init_0 rfl (lv_at hl 0 rfl) ?_
  refine W.objInit hx hb hown (hts _ zn2_57) (hts _ zn2_1) (hts _ zn2_2) rfl (by rw [hml]; exact hl.1) rfl d_Statement_init_1 (Nat.le_trans (by decide) hR1) (Nat.le_trans (Nat.le_of_ble_eq_true rfl) hR2) ?_
  refine W.eq (g2 := F0 m 4 ls []) rfl ?_
  refine lv_aload_n hx hb d_Statement_init_4 rfl (lv_at hl 0 rfl) ?_
  refine va_gets (C := "ScheduleCheck$Kind") (n := "STOP") (d := "LScheduleCheck$Kind;") (v := .ref (ad 1109)) hx hb ((G.2.2.2.1.1 rfl).2.2.1.1 9 (by decide)).1 hw.2.2.1 hown (hts _ zn2_58) (fun _ h => h) d_Statement_init_5 ?_
  refine zk_putr (ci := 6) G hw 65 0 (by decide) (by decide) zi_6 t_zd6 t_zd6_ok n_zd6 rfl rfl rfl (by decide) rfl zn2_59 (fun _ h => h) rfl  (x := 1109) (by decide) (t_zd6_ok 0 (by decide)) rfl rfl d_Statement_init_8 (fun H locs hw => ?_)
  exact zk_vret G hw hr hlocks hQ d_Statement_init_11
def zk_f_Statement_init_66 (σ : zs_S) : zs_S := (zs_wr σ 66 0 1109)
set_option maxHeartbeats 8000000 in
set_option maxRecDepth 100000 in
theorem zk_Statement_init_66 {l : Launch} {D : va_G} {cA : Nat → ClassId} {ad : Nat → Nat} {A : Nat → Prop} {b : Nat} {σ : zs_S} (hJ : zs_J ad) (had : ∀ o, 1 ≤ o → o ≤ zd_M 2 → ad o = b + (o - 1)) (hA : ∀ q, b ≤ q → A q) : Met l y_Statement_init (.code y_Statement_init prog_8_method_1_code 1 none :: zd_ww) { frames := 1, cells := 0, slots := 0, locals := 30 } (va_Pc [.ref (ad 66)] (zk_U 2 D cA ad A b 66 σ)) (zk_Q 2 D cA ad A b 66 (zk_f_Statement_init_66 σ)) 0 0 A := by
  refine Met.ofW (cc := prog_8_method_1_code) (maxL := 1) (ret := none) (by decide) rfl ?_
  intro p e s m args below meth c s₁ B hml hv
  obtain ⟨hargs, hP, hK, hD, hZ, hz, hd, hO⟩ := hv
  have G : zk_G 2 p s m args c prog_8_method_1_code 1 "ScheduleCheck$Statement" D cA ad A b := ⟨⟨B.exec, B.bytes, hml, findClass_of_methodNamed B.named, fun w h => atoms_spec B.pre w (List.mem_cons_of_mem _ h)⟩, hK, hJ, hZ, had, hA, hO⟩
  have hw : zk_I 2 D cA ad A s b 66 σ s.heap [] := ⟨hP, hD, va_S.rf, hz, hd⟩
  have hx := G.1.1
  have hb := G.1.2.1
  have hown := G.1.2.2.2.1
  have hts := G.1.2.2.2.2
  have hr := B.returns
  have hlocks := B.notSynchronized
  have hin : meth.name = "<init>" := (name_of_methodNamed B.named B.method).1
  have he : entryFrame m args 1 = F0 m 0 ((lg_sl [.ref (ad 66)] ++ List.replicate (1 - (lg_sl [.ref (ad 66)]).length) Slot.unset).toArray) [] := by rw [hargs]; exact lg_entry_eq m _ 1
  have hl := lv_entry [.ref (ad 66)] (n := 1) (Nat.le_of_ble_eq_true rfl)
  rw [he]
  generalize (lg_sl [.ref (ad 66)] ++ List.replicate (1 - (lg_sl [.ref (ad 66)]).length) Slot.unset).toArray = ls at hl
  have hl : lv_has ls 1 [(0, .ref (ad 66))] := hl
  obtain ⟨RR, hR⟩ : ∃ z, z = (headSpec (.code y_Statement_init prog_8_method_1_code 1 none :: zd_ww) { frames := 1, cells := 0, slots := 0, locals := 30 }).room := ⟨_, rfl⟩
  rw [← hR]
  obtain ⟨QQ, hQ⟩ : ∃ z, z = MQ below (zk_Q 2 D cA ad A b 66 (zk_f_Statement_init_66 σ)) args s 0 0 A := ⟨_, rfl⟩
  rw [← hQ]
  have hR1 : 1 ≤ RR.frames := by rw [hR]; exact Nat.le_refl _
  have hR2 : 30 ≤ RR.locals := by rw [hR]; exact Nat.le_refl _
  have hR3 : 0 ≤ RR.cells := by rw [hR]; exact Nat.le_refl _
  have hR4 : 0 ≤ RR.slots := by rw [hR]; exact Nat.le_refl _
  generalize s.heap = H at hw ⊢
  generalize ([] : List Loc) = locs at hw ⊢
  refine lv_aload_n hx hb d_Statement_init_0 rfl (lv_at hl 0 rfl) ?_
  refine W.objInit hx hb hown (hts _ zn2_57) (hts _ zn2_1) (hts _ zn2_2) rfl (by rw [hml]; exact hl.1) rfl d_Statement_init_1 (Nat.le_trans (by decide) hR1) (Nat.le_trans (Nat.le_of_ble_eq_true rfl) hR2) ?_
  refine W.eq (g2 := F0 m 4 ls []) rfl ?_
  refine lv_aload_n hx hb d_Statement_init_4 rfl (lv_at hl 0 rfl) ?_
  refine va_gets (C := "ScheduleCheck$Kind") (n := "STOP") (d := "LScheduleCheck$Kind;") (v := .ref (ad 1109)) hx hb ((G.2.2.2.1.1 rfl).2.2.1.1 9 (by decide)).1 hw.2.2.1 hown (hts _ zn2_58) (fun _ h => h) d_Statement_init_5 ?_
  refine zk_putr (ci := 6) G hw 66 0 (by decide) (by decide) zi_6 t_zd6 t_zd6_ok n_zd6 rfl rfl rfl (by decide) rfl zn2_59 (fun _ h => h) rfl  (x := 1109) (by decide) (t_zd6_ok 0 (by decide)) rfl rfl d_Statement_init_8 (fun H locs hw => ?_)
  exact zk_vret G hw hr hlocks hQ d_Statement_init_11
def zk_f_Statement_init_67 (σ : zs_S) : zs_S := (zs_wr σ 67 0 1109)
set_option maxHeartbeats 8000000 in
set_option maxRecDepth 100000 in
theorem zk_Statement_init_67 {l : Launch} {D : va_G} {cA : Nat → ClassId} {ad : Nat → Nat} {A : Nat → Prop} {b : Nat} {σ : zs_S} (hJ : zs_J ad) (had : ∀ o, 1 ≤ o → o ≤ zd_M 2 → ad o = b + (o - 1)) (hA : ∀ q, b ≤ q → A q) : Met l y_Statement_init (.code y_Statement_init prog_8_method_1_code 1 none :: zd_ww) { frames := 1, cells := 0, slots := 0, locals := 30 } (va_Pc [.ref (ad 67)] (zk_U 2 D cA ad A b 67 σ)) (zk_Q 2 D cA ad A b 67 (zk_f_Statement_init_67 σ)) 0 0 A := by
  refine Met.ofW (cc := prog_8_method_1_code) (maxL := 1) (ret := none) (by decide) rfl ?_
  intro p e s m args below meth c s₁ B hml hv
  obtain ⟨hargs, hP, hK, hD, hZ, hz, hd, hO⟩ := hv
  have G : zk_G 2 p s m args c prog_8_method_1_code 1 "ScheduleCheck$Statement" D cA ad A b := ⟨⟨B.exec, B.bytes, hml, findClass_of_methodNamed B.named, fun w h => atoms_spec B.pre w (List.mem_cons_of_mem _ h)⟩, hK, hJ, hZ, had, hA, hO⟩
  have hw : zk_I 2 D cA ad A s b 67 σ s.heap [] := ⟨hP, hD, va_S.rf, hz, hd⟩
  have hx := G.1.1
  have hb := G.1.2.1
  have hown := G.1.2.2.2.1
  have hts := G.1.2.2.2.2
  have hr := B.returns
  have hlocks := B.notSynchronized
  have hin : meth.name = "<init>" := (name_of_methodNamed B.named B.method).1
  have he : entryFrame m args 1 = F0 m 0 ((lg_sl [.ref (ad 67)] ++ List.replicate (1 - (lg_sl [.ref (ad 67)]).length) Slot.unset).toArray) [] := by rw [hargs]; exact lg_entry_eq m _ 1
  have hl := lv_entry [.ref (ad 67)] (n := 1) (Nat.le_of_ble_eq_true rfl)
  rw [he]
  generalize (lg_sl [.ref (ad 67)] ++ List.replicate (1 - (lg_sl [.ref (ad 67)]).length) Slot.unset).toArray = ls at hl
  have hl : lv_has ls 1 [(0, .ref (ad 67))] := hl
  obtain ⟨RR, hR⟩ : ∃ z, z = (headSpec (.code y_Statement_init prog_8_method_1_code 1 none :: zd_ww) { frames := 1, cells := 0, slots := 0, locals := 30 }).room := ⟨_, rfl⟩
  rw [← hR]
  obtain ⟨QQ, hQ⟩ : ∃ z, z = MQ below (zk_Q 2 D cA ad A b 67 (zk_f_Statement_init_67 σ)) args s 0 0 A := ⟨_, rfl⟩
  rw [← hQ]
  have hR1 : 1 ≤ RR.frames := by rw [hR]; exact Nat.le_refl _
  have hR2 : 30 ≤ RR.locals := by rw [hR]; exact Nat.le_refl _
  have hR3 : 0 ≤ RR.cells := by rw [hR]; exact Nat.le_refl _
  have hR4 : 0 ≤ RR.slots := by rw [hR]; exact Nat.le_refl _
  generalize s.heap = H at hw ⊢
  generalize ([] : List Loc) = locs at hw ⊢
  refine lv_aload_n hx hb d_Statement_init_0 rfl (lv_at hl 0 rfl) ?_
  refine W.objInit hx hb hown (hts _ zn2_57) (hts _ zn2_1) (hts _ zn2_2) rfl (by rw [hml]; exact hl.1) rfl d_Statement_init_1 (Nat.le_trans (by decide) hR1) (Nat.le_trans (Nat.le_of_ble_eq_true rfl) hR2) ?_
  refine W.eq (g2 := F0 m 4 ls []) rfl ?_
  refine lv_aload_n hx hb d_Statement_init_4 rfl (lv_at hl 0 rfl) ?_
  refine va_gets (C := "ScheduleCheck$Kind") (n := "STOP") (d := "LScheduleCheck$Kind;") (v := .ref (ad 1109)) hx hb ((G.2.2.2.1.1 rfl).2.2.1.1 9 (by decide)).1 hw.2.2.1 hown (hts _ zn2_58) (fun _ h => h) d_Statement_init_5 ?_
  refine zk_putr (ci := 6) G hw 67 0 (by decide) (by decide) zi_6 t_zd6 t_zd6_ok n_zd6 rfl rfl rfl (by decide) rfl zn2_59 (fun _ h => h) rfl  (x := 1109) (by decide) (t_zd6_ok 0 (by decide)) rfl rfl d_Statement_init_8 (fun H locs hw => ?_)
  exact zk_vret G hw hr hlocks hQ d_Statement_init_11
def zk_f_Statement_init_68 (σ : zs_S) : zs_S := (zs_wr σ 68 0 1109)
set_option maxHeartbeats 8000000 in
set_option maxRecDepth 100000 in
theorem zk_Statement_init_68 {l : Launch} {D : va_G} {cA : Nat → ClassId} {ad : Nat → Nat} {A : Nat → Prop} {b : Nat} {σ : zs_S} (hJ : zs_J ad) (had : ∀ o, 1 ≤ o → o ≤ zd_M 2 → ad o = b + (o - 1)) (hA : ∀ q, b ≤ q → A q) : Met l y_Statement_init (.code y_Statement_init prog_8_method_1_code 1 none :: zd_ww) { frames := 1, cells := 0, slots := 0, locals := 30 } (va_Pc [.ref (ad 68)] (zk_U 2 D cA ad A b 68 σ)) (zk_Q 2 D cA ad A b 68 (zk_f_Statement_init_68 σ)) 0 0 A := by
  refine Met.ofW (cc := prog_8_method_1_code) (maxL := 1) (ret := none) (by decide) rfl ?_
  intro p e s m args below meth c s₁ B hml hv
  obtain ⟨hargs, hP, hK, hD, hZ, hz, hd, hO⟩ := hv
  have G : zk_G 2 p s m args c prog_8_method_1_code 1 "ScheduleCheck$Statement" D cA ad A b := ⟨⟨B.exec, B.bytes, hml, findClass_of_methodNamed B.named, fun w h => atoms_spec B.pre w (List.mem_cons_of_mem _ h)⟩, hK, hJ, hZ, had, hA, hO⟩
  have hw : zk_I 2 D cA ad A s b 68 σ s.heap [] := ⟨hP, hD, va_S.rf, hz, hd⟩
  have hx := G.1.1
  have hb := G.1.2.1
  have hown := G.1.2.2.2.1
  have hts := G.1.2.2.2.2
  have hr := B.returns
  have hlocks := B.notSynchronized
  have hin : meth.name = "<init>" := (name_of_methodNamed B.named B.method).1
  have he : entryFrame m args 1 = F0 m 0 ((lg_sl [.ref (ad 68)] ++ List.replicate (1 - (lg_sl [.ref (ad 68)]).length) Slot.unset).toArray) [] := by rw [hargs]; exact lg_entry_eq m _ 1
  have hl := lv_entry [.ref (ad 68)] (n := 1) (Nat.le_of_ble_eq_true rfl)
  rw [he]
  generalize (lg_sl [.ref (ad 68)] ++ List.replicate (1 - (lg_sl [.ref (ad 68)]).length) Slot.unset).toArray = ls at hl
  have hl : lv_has ls 1 [(0, .ref (ad 68))] := hl
  obtain ⟨RR, hR⟩ : ∃ z, z = (headSpec (.code y_Statement_init prog_8_method_1_code 1 none :: zd_ww) { frames := 1, cells := 0, slots := 0, locals := 30 }).room := ⟨_, rfl⟩
  rw [← hR]
  obtain ⟨QQ, hQ⟩ : ∃ z, z = MQ below (zk_Q 2 D cA ad A b 68 (zk_f_Statement_init_68 σ)) args s 0 0 A := ⟨_, rfl⟩
  rw [← hQ]
  have hR1 : 1 ≤ RR.frames := by rw [hR]; exact Nat.le_refl _
  have hR2 : 30 ≤ RR.locals := by rw [hR]; exact Nat.le_refl _
  have hR3 : 0 ≤ RR.cells := by rw [hR]; exact Nat.le_refl _
  have hR4 : 0 ≤ RR.slots := by rw [hR]; exact Nat.le_refl _
  generalize s.heap = H at hw ⊢
  generalize ([] : List Loc) = locs at hw ⊢
  refine lv_aload_n hx hb d_Statement_init_0 rfl (lv_at hl 0 rfl) ?_
  refine W.objInit hx hb hown (hts _ zn2_57) (hts _ zn2_1) (hts _ zn2_2) rfl (by rw [hml]; exact hl.1) rfl d_Statement_init_1 (Nat.le_trans (by decide) hR1) (Nat.le_trans (Nat.le_of_ble_eq_true rfl) hR2) ?_
  refine W.eq (g2 := F0 m 4 ls []) rfl ?_
  refine lv_aload_n hx hb d_Statement_init_4 rfl (lv_at hl 0 rfl) ?_
  refine va_gets (C := "ScheduleCheck$Kind") (n := "STOP") (d := "LScheduleCheck$Kind;") (v := .ref (ad 1109)) hx hb ((G.2.2.2.1.1 rfl).2.2.1.1 9 (by decide)).1 hw.2.2.1 hown (hts _ zn2_58) (fun _ h => h) d_Statement_init_5 ?_
  refine zk_putr (ci := 6) G hw 68 0 (by decide) (by decide) zi_6 t_zd6 t_zd6_ok n_zd6 rfl rfl rfl (by decide) rfl zn2_59 (fun _ h => h) rfl  (x := 1109) (by decide) (t_zd6_ok 0 (by decide)) rfl rfl d_Statement_init_8 (fun H locs hw => ?_)
  exact zk_vret G hw hr hlocks hQ d_Statement_init_11
def zk_f_Statement_init_69 (σ : zs_S) : zs_S := (zs_wr σ 69 0 1109)
set_option maxHeartbeats 8000000 in
set_option maxRecDepth 100000 in
theorem zk_Statement_init_69 {l : Launch} {D : va_G} {cA : Nat → ClassId} {ad : Nat → Nat} {A : Nat → Prop} {b : Nat} {σ : zs_S} (hJ : zs_J ad) (had : ∀ o, 1 ≤ o → o ≤ zd_M 2 → ad o = b + (o - 1)) (hA : ∀ q, b ≤ q → A q) : Met l y_Statement_init (.code y_Statement_init prog_8_method_1_code 1 none :: zd_ww) { frames := 1, cells := 0, slots := 0, locals := 30 } (va_Pc [.ref (ad 69)] (zk_U 2 D cA ad A b 69 σ)) (zk_Q 2 D cA ad A b 69 (zk_f_Statement_init_69 σ)) 0 0 A := by
  refine Met.ofW (cc := prog_8_method_1_code) (maxL := 1) (ret := none) (by decide) rfl ?_
  intro p e s m args below meth c s₁ B hml hv
  obtain ⟨hargs, hP, hK, hD, hZ, hz, hd, hO⟩ := hv
  have G : zk_G 2 p s m args c prog_8_method_1_code 1 "ScheduleCheck$Statement" D cA ad A b := ⟨⟨B.exec, B.bytes, hml, findClass_of_methodNamed B.named, fun w h => atoms_spec B.pre w (List.mem_cons_of_mem _ h)⟩, hK, hJ, hZ, had, hA, hO⟩
  have hw : zk_I 2 D cA ad A s b 69 σ s.heap [] := ⟨hP, hD, va_S.rf, hz, hd⟩
  have hx := G.1.1
  have hb := G.1.2.1
  have hown := G.1.2.2.2.1
  have hts := G.1.2.2.2.2
  have hr := B.returns
  have hlocks := B.notSynchronized
  have hin : meth.name = "<init>" := (name_of_methodNamed B.named B.method).1
  have he : entryFrame m args 1 = F0 m 0 ((lg_sl [.ref (ad 69)] ++ List.replicate (1 - (lg_sl [.ref (ad 69)]).length) Slot.unset).toArray) [] := by rw [hargs]; exact lg_entry_eq m _ 1
  have hl := lv_entry [.ref (ad 69)] (n := 1) (Nat.le_of_ble_eq_true rfl)
  rw [he]
  generalize (lg_sl [.ref (ad 69)] ++ List.replicate (1 - (lg_sl [.ref (ad 69)]).length) Slot.unset).toArray = ls at hl
  have hl : lv_has ls 1 [(0, .ref (ad 69))] := hl
  obtain ⟨RR, hR⟩ : ∃ z, z = (headSpec (.code y_Statement_init prog_8_method_1_code 1 none :: zd_ww) { frames := 1, cells := 0, slots := 0, locals := 30 }).room := ⟨_, rfl⟩
  rw [← hR]
  obtain ⟨QQ, hQ⟩ : ∃ z, z = MQ below (zk_Q 2 D cA ad A b 69 (zk_f_Statement_init_69 σ)) args s 0 0 A := ⟨_, rfl⟩
  rw [← hQ]
  have hR1 : 1 ≤ RR.frames := by rw [hR]; exact Nat.le_refl _
  have hR2 : 30 ≤ RR.locals := by rw [hR]; exact Nat.le_refl _
  have hR3 : 0 ≤ RR.cells := by rw [hR]; exact Nat.le_refl _
  have hR4 : 0 ≤ RR.slots := by rw [hR]; exact Nat.le_refl _
  generalize s.heap = H at hw ⊢
  generalize ([] : List Loc) = locs at hw ⊢
  refine lv_aload_n hx hb d_Statement_init_0 rfl (lv_at hl 0 rfl) ?_
  refine W.objInit hx hb hown (hts _ zn2_57) (hts _ zn2_1) (hts _ zn2_2) rfl (by rw [hml]; exact hl.1) rfl d_Statement_init_1 (Nat.le_trans (by decide) hR1) (Nat.le_trans (Nat.le_of_ble_eq_true rfl) hR2) ?_
  refine W.eq (g2 := F0 m 4 ls []) rfl ?_
  refine lv_aload_n hx hb d_Statement_init_4 rfl (lv_at hl 0 rfl) ?_
  refine va_gets (C := "ScheduleCheck$Kind") (n := "STOP") (d := "LScheduleCheck$Kind;") (v := .ref (ad 1109)) hx hb ((G.2.2.2.1.1 rfl).2.2.1.1 9 (by decide)).1 hw.2.2.1 hown (hts _ zn2_58) (fun _ h => h) d_Statement_init_5 ?_
  refine zk_putr (ci := 6) G hw 69 0 (by decide) (by decide) zi_6 t_zd6 t_zd6_ok n_zd6 rfl rfl rfl (by decide) rfl zn2_59 (fun _ h => h) rfl  (x := 1109) (by decide) (t_zd6_ok 0 (by decide)) rfl rfl d_Statement_init_8 (fun H locs hw => ?_)
  exact zk_vret G hw hr hlocks hQ d_Statement_init_11
def zk_f_Statement_init_70 (σ : zs_S) : zs_S := (zs_wr σ 70 0 1109)
set_option maxHeartbeats 8000000 in
set_option maxRecDepth 100000 in
theorem zk_Statement_init_70 {l : Launch} {D : va_G} {cA : Nat → ClassId} {ad : Nat → Nat} {A : Nat → Prop} {b : Nat} {σ : zs_S} (hJ : zs_J ad) (had : ∀ o, 1 ≤ o → o ≤ zd_M 2 → ad o = b + (o - 1)) (hA : ∀ q, b ≤ q → A q) : Met l y_Statement_init (.code y_Statement_init prog_8_method_1_code 1 none :: zd_ww) { frames := 1, cells := 0, slots := 0, locals := 30 } (va_Pc [.ref (ad 70)] (zk_U 2 D cA ad A b 70 σ)) (zk_Q 2 D cA ad A b 70 (zk_f_Statement_init_70 σ)) 0 0 A := by
  refine Met.ofW (cc := prog_8_method_1_code) (maxL := 1) (ret := none) (by decide) rfl ?_
  intro p e s m args below meth c s₁ B hml hv
  obtain ⟨hargs, hP, hK, hD, hZ, hz, hd, hO⟩ := hv
  have G : zk_G 2 p s m args c prog_8_method_1_code 1 "ScheduleCheck$Statement" D cA ad A b := ⟨⟨B.exec, B.bytes, hml, findClass_of_methodNamed B.named, fun w h => atoms_spec B.pre w (List.mem_cons_of_mem _ h)⟩, hK, hJ, hZ, had, hA, hO⟩
  have hw : zk_I 2 D cA ad A s b 70 σ s.heap [] := ⟨hP, hD, va_S.rf, hz, hd⟩
  have hx := G.1.1
  have hb := G.1.2.1
  have hown := G.1.2.2.2.1
  have hts := G.1.2.2.2.2
  have hr := B.returns
  have hlocks := B.notSynchronized
  have hin : meth.name = "<init>" := (name_of_methodNamed B.named B.method).1
  have he : entryFrame m args 1 = F0 m 0 ((lg_sl [.ref (ad 70)] ++ List.replicate (1 - (lg_sl [.ref (ad 70)]).length) Slot.unset).toArray) [] := by rw [hargs]; exact lg_entry_eq m _ 1
  have hl := lv_entry [.ref (ad 70)] (n := 1) (Nat.le_of_ble_eq_true rfl)
  rw [he]
  generalize (lg_sl [.ref (ad 70)] ++ List.replicate (1 - (lg_sl [.ref (ad 70)]).length) Slot.unset).toArray = ls at hl
  have hl : lv_has ls 1 [(0, .ref (ad 70))] := hl
  obtain ⟨RR, hR⟩ : ∃ z, z = (headSpec (.code y_Statement_init prog_8_method_1_code 1 none :: zd_ww) { frames := 1, cells := 0, slots := 0, locals := 30 }).room := ⟨_, rfl⟩
  rw [← hR]
  obtain ⟨QQ, hQ⟩ : ∃ z, z = MQ below (zk_Q 2 D cA ad A b 70 (zk_f_Statement_init_70 σ)) args s 0 0 A := ⟨_, rfl⟩
  rw [← hQ]
  have hR1 : 1 ≤ RR.frames := by rw [hR]; exact Nat.le_refl _
  have hR2 : 30 ≤ RR.locals := by rw [hR]; exact Nat.le_refl _
  have hR3 : 0 ≤ RR.cells := by rw [hR]; exact Nat.le_refl _
  have hR4 : 0 ≤ RR.slots := by rw [hR]; exact Nat.le_refl _
  generalize s.heap = H at hw ⊢
  generalize ([] : List Loc) = locs at hw ⊢
  refine lv_aload_n hx hb d_Statement_init_0 rfl (lv_at hl 0 rfl) ?_
  refine W.objInit hx hb hown (hts _ zn2_57) (hts _ zn2_1) (hts _ zn2_2) rfl (by rw [hml]; exact hl.1) rfl d_Statement_init_1 (Nat.le_trans (by decide) hR1) (Nat.le_trans (Nat.le_of_ble_eq_true rfl) hR2) ?_
  refine W.eq (g2 := F0 m 4 ls []) rfl ?_
  refine lv_aload_n hx hb d_Statement_init_4 rfl (lv_at hl 0 rfl) ?_
  refine va_gets (C := "ScheduleCheck$Kind") (n := "STOP") (d := "LScheduleCheck$Kind;") (v := .ref (ad 1109)) hx hb ((G.2.2.2.1.1 rfl).2.2.1.1 9 (by decide)).1 hw.2.2.1 hown (hts _ zn2_58) (fun _ h => h) d_Statement_init_5 ?_
  refine zk_putr (ci := 6) G hw 70 0 (by decide) (by decide) zi_6 t_zd6 t_zd6_ok n_zd6 rfl rfl rfl (by decide) rfl zn2_59 (fun _ h => h) rfl  (x := 1109) (by decide) (t_zd6_ok 0 (by decide)) rfl rfl d_Statement_init_8 (fun H locs hw => ?_)
  exact zk_vret G hw hr hlocks hQ d_Statement_init_11
def zk_f_Statement_init_71 (σ : zs_S) : zs_S := (zs_wr σ 71 0 1109)
set_option maxHeartbeats 8000000 in
set_option maxRecDepth 100000 in
theorem zk_Statement_init_71 {l : Launch} {D : va_G} {cA : Nat → ClassId} {ad : Nat → Nat} {A : Nat → Prop} {b : Nat} {σ : zs_S} (hJ : zs_J ad) (had : ∀ o, 1 ≤ o → o ≤ zd_M 2 → ad o = b + (o - 1)) (hA : ∀ q, b ≤ q → A q) : Met l y_Statement_init (.code y_Statement_init prog_8_method_1_code 1 none :: zd_ww) { frames := 1, cells := 0, slots := 0, locals := 30 } (va_Pc [.ref (ad 71)] (zk_U 2 D cA ad A b 71 σ)) (zk_Q 2 D cA ad A b 71 (zk_f_Statement_init_71 σ)) 0 0 A := by
  refine Met.ofW (cc := prog_8_method_1_code) (maxL := 1) (ret := none) (by decide) rfl ?_
  intro p e s m args below meth c s₁ B hml hv
  obtain ⟨hargs, hP, hK, hD, hZ, hz, hd, hO⟩ := hv
  have G : zk_G 2 p s m args c prog_8_method_1_code 1 "ScheduleCheck$Statement" D cA ad A b := ⟨⟨B.exec, B.bytes, hml, findClass_of_methodNamed B.named, fun w h => atoms_spec B.pre w (List.mem_cons_of_mem _ h)⟩, hK, hJ, hZ, had, hA, hO⟩
  have hw : zk_I 2 D cA ad A s b 71 σ s.heap [] := ⟨hP, hD, va_S.rf, hz, hd⟩
  have hx := G.1.1
  have hb := G.1.2.1
  have hown := G.1.2.2.2.1
  have hts := G.1.2.2.2.2
  have hr := B.returns
  have hlocks := B.notSynchronized
  have hin : meth.name = "<init>" := (name_of_methodNamed B.named B.method).1
  have he : entryFrame m args 1 = F0 m 0 ((lg_sl [.ref (ad 71)] ++ List.replicate (1 - (lg_sl [.ref (ad 71)]).length) Slot.unset).toArray) [] := by rw [hargs]; exact lg_entry_eq m _ 1
  have hl := lv_entry [.ref (ad 71)] (n := 1) (Nat.le_of_ble_eq_true rfl)
  rw [he]
  generalize (lg_sl [.ref (ad 71)] ++ List.replicate (1 - (lg_sl [.ref (ad 71)]).length) Slot.unset).toArray = ls at hl
  have hl : lv_has ls 1 [(0, .ref (ad 71))] := hl
  obtain ⟨RR, hR⟩ : ∃ z, z = (headSpec (.code y_Statement_init prog_8_method_1_code 1 none :: zd_ww) { frames := 1, cells := 0, slots := 0, locals := 30 }).room := ⟨_, rfl⟩
  rw [← hR]
  obtain ⟨QQ, hQ⟩ : ∃ z, z = MQ below (zk_Q 2 D cA ad A b 71 (zk_f_Statement_init_71 σ)) args s 0 0 A := ⟨_, rfl⟩
  rw [← hQ]
  have hR1 : 1 ≤ RR.frames := by rw [hR]; exact Nat.le_refl _
  have hR2 : 30 ≤ RR.locals := by rw [hR]; exact Nat.le_refl _
  have hR3 : 0 ≤ RR.cells := by rw [hR]; exact Nat.le_refl _
  have hR4 : 0 ≤ RR.slots := by rw [hR]; exact Nat.le_refl _
  generalize s.heap = H at hw ⊢
  generalize ([] : List Loc) = locs at hw ⊢
  refine lv_aload_n hx hb d_Statement_init_0 rfl (lv_at hl 0 rfl) ?_
  refine W.objInit hx hb hown (hts _ zn2_57) (hts _ zn2_1) (hts _ zn2_2) rfl (by rw [hml]; exact hl.1) rfl d_Statement_init_1 (Nat.le_trans (by decide) hR1) (Nat.le_trans (Nat.le_of_ble_eq_true rfl) hR2) ?_
  refine W.eq (g2 := F0 m 4 ls []) rfl ?_
  refine lv_aload_n hx hb d_Statement_init_4 rfl (lv_at hl 0 rfl) ?_
  refine va_gets (C := "ScheduleCheck$Kind") (n := "STOP") (d := "LScheduleCheck$Kind;") (v := .ref (ad 1109)) hx hb ((G.2.2.2.1.1 rfl).2.2.1.1 9 (by decide)).1 hw.2.2.1 hown (hts _ zn2_58) (fun _ h => h) d_Statement_init_5 ?_
  refine zk_putr (ci := 6) G hw 71 0 (by decide) (by decide) zi_6 t_zd6 t_zd6_ok n_zd6 rfl rfl rfl (by decide) rfl zn2_59 (fun _ h => h) rfl  (x := 1109) (by decide) (t_zd6_ok 0 (by decide)) rfl rfl d_Statement_init_8 (fun H locs hw => ?_)
  exact zk_vret G hw hr hlocks hQ d_Statement_init_11
def zk_f_Statement_init_72 (σ : zs_S) : zs_S := (zs_wr σ 72 0 1109)
set_option maxHeartbeats 8000000 in
set_option maxRecDepth 100000 in
theorem zk_Statement_init_72 {l : Launch} {D : va_G} {cA : Nat → ClassId} {ad : Nat → Nat} {A : Nat → Prop} {b : Nat} {σ : zs_S} (hJ : zs_J ad) (had : ∀ o, 1 ≤ o → o ≤ zd_M 2 → ad o = b + (o - 1)) (hA : ∀ q, b ≤ q → A q) : Met l y_Statement_init (.code y_Statement_init prog_8_method_1_code 1 none :: zd_ww) { frames := 1, cells := 0, slots := 0, locals := 30 } (va_Pc [.ref (ad 72)] (zk_U 2 D cA ad A b 72 σ)) (zk_Q 2 D cA ad A b 72 (zk_f_Statement_init_72 σ)) 0 0 A := by
  refine Met.ofW (cc := prog_8_method_1_code) (maxL := 1) (ret := none) (by decide) rfl ?_
  intro p e s m args below meth c s₁ B hml hv
  obtain ⟨hargs, hP, hK, hD, hZ, hz, hd, hO⟩ := hv
  have G : zk_G 2 p s m args c prog_8_method_1_code 1 "ScheduleCheck$Statement" D cA ad A b := ⟨⟨B.exec, B.bytes, hml, findClass_of_methodNamed B.named, fun w h => atoms_spec B.pre w (List.mem_cons_of_mem _ h)⟩, hK, hJ, hZ, had, hA, hO⟩
  have hw : zk_I 2 D cA ad A s b 72 σ s.heap [] := ⟨hP, hD, va_S.rf, hz, hd⟩
  have hx := G.1.1
  have hb := G.1.2.1
  have hown := G.1.2.2.2.1
  have hts := G.1.2.2.2.2
  have hr := B.returns
  have hlocks := B.notSynchronized
  have hin : meth.name = "<init>" := (name_of_methodNamed B.named B.method).1
  have he : entryFrame m args 1 = F0 m 0 ((lg_sl [.ref (ad 72)] ++ List.replicate (1 - (lg_sl [.ref (ad 72)]).length) Slot.unset).toArray) [] := by rw [hargs]; exact lg_entry_eq m _ 1
  have hl := lv_entry [.ref (ad 72)] (n := 1) (Nat.le_of_ble_eq_true rfl)
  rw [he]
  generalize (lg_sl [.ref (ad 72)] ++ List.replicate (1 - (lg_sl [.ref (ad 72)]).length) Slot.unset).toArray = ls at hl
  have hl : lv_has ls 1 [(0, .ref (ad 72))] := hl
  obtain ⟨RR, hR⟩ : ∃ z, z = (headSpec (.code y_Statement_init prog_8_method_1_code 1 none :: zd_ww) { frames := 1, cells := 0, slots := 0, locals := 30 }).room := ⟨_, rfl⟩
  rw [← hR]
  obtain ⟨QQ, hQ⟩ : ∃ z, z = MQ below (zk_Q 2 D cA ad A b 72 (zk_f_Statement_init_72 σ)) args s 0 0 A := ⟨_, rfl⟩
  rw [← hQ]
  have hR1 : 1 ≤ RR.frames := by rw [hR]; exact Nat.le_refl _
  have hR2 : 30 ≤ RR.locals := by rw [hR]; exact Nat.le_refl _
  have hR3 : 0 ≤ RR.cells := by rw [hR]; exact Nat.le_refl _
  have hR4 : 0 ≤ RR.slots := by rw [hR]; exact Nat.le_refl _
  generalize s.heap = H at hw ⊢
  generalize ([] : List Loc) = locs at hw ⊢
  refine lv_aload_n hx hb d_Statement_init_0 rfl (lv_at hl 0 rfl) ?_
  refine W.objInit hx hb hown (hts _ zn2_57) (hts _ zn2_1) (hts _ zn2_2) rfl (by rw [hml]; exact hl.1) rfl d_Statement_init_1 (Nat.le_trans (by decide) hR1) (Nat.le_trans (Nat.le_of_ble_eq_true rfl) hR2) ?_
  refine W.eq (g2 := F0 m 4 ls []) rfl ?_
  refine lv_aload_n hx hb d_Statement_init_4 rfl (lv_at hl 0 rfl) ?_
  refine va_gets (C := "ScheduleCheck$Kind") (n := "STOP") (d := "LScheduleCheck$Kind;") (v := .ref (ad 1109)) hx hb ((G.2.2.2.1.1 rfl).2.2.1.1 9 (by decide)).1 hw.2.2.1 hown (hts _ zn2_58) (fun _ h => h) d_Statement_init_5 ?_
  refine zk_putr (ci := 6) G hw 72 0 (by decide) (by decide) zi_6 t_zd6 t_zd6_ok n_zd6 rfl rfl rfl (by decide) rfl zn2_59 (fun _ h => h) rfl  (x := 1109) (by decide) (t_zd6_ok 0 (by decide)) rfl rfl d_Statement_init_8 (fun H locs hw => ?_)
  exact zk_vret G hw hr hlocks hQ d_Statement_init_11
def zk_f_Statement_init_73 (σ : zs_S) : zs_S := (zs_wr σ 73 0 1109)
set_option maxHeartbeats 8000000 in
set_option maxRecDepth 100000 in
theorem zk_Statement_init_73 {l : Launch} {D : va_G} {cA : Nat → ClassId} {ad : Nat → Nat} {A : Nat → Prop} {b : Nat} {σ : zs_S} (hJ : zs_J ad) (had : ∀ o, 1 ≤ o → o ≤ zd_M 2 → ad o = b + (o - 1)) (hA : ∀ q, b ≤ q → A q) : Met l y_Statement_init (.code y_Statement_init prog_8_method_1_code 1 none :: zd_ww) { frames := 1, cells := 0, slots := 0, locals := 30 } (va_Pc [.ref (ad 73)] (zk_U 2 D cA ad A b 73 σ)) (zk_Q 2 D cA ad A b 73 (zk_f_Statement_init_73 σ)) 0 0 A := by
  refine Met.ofW (cc := prog_8_method_1_code) (maxL := 1) (ret := none) (by decide) rfl ?_
  intro p e s m args below meth c s₁ B hml hv
  obtain ⟨hargs, hP, hK, hD, hZ, hz, hd, hO⟩ := hv
  have G : zk_G 2 p s m args c prog_8_method_1_code 1 "ScheduleCheck$Statement" D cA ad A b := ⟨⟨B.exec, B.bytes, hml, findClass_of_methodNamed B.named, fun w h => atoms_spec B.pre w (List.mem_cons_of_mem _ h)⟩, hK, hJ, hZ, had, hA, hO⟩
  have hw : zk_I 2 D cA ad A s b 73 σ s.heap [] := ⟨hP, hD, va_S.rf, hz, hd⟩
  have hx := G.1.1
  have hb := G.1.2.1
  have hown := G.1.2.2.2.1
  have hts := G.1.2.2.2.2
  have hr := B.returns
  have hlocks := B.notSynchronized
  have hin : meth.name = "<init>" := (name_of_methodNamed B.named B.method).1
  have he : entryFrame m args 1 = F0 m 0 ((lg_sl [.ref (ad 73)] ++ List.replicate (1 - (lg_sl [.ref (ad 73)]).length) Slot.unset).toArray) [] := by rw [hargs]; exact lg_entry_eq m _ 1
  have hl := lv_entry [.ref (ad 73)] (n := 1) (Nat.le_of_ble_eq_true rfl)
  rw [he]
  generalize (lg_sl [.ref (ad 73)] ++ List.replicate (1 - (lg_sl [.ref (ad 73)]).length) Slot.unset).toArray = ls at hl
  have hl : lv_has ls 1 [(0, .ref (ad 73))] := hl
  obtain ⟨RR, hR⟩ : ∃ z, z = (headSpec (.code y_Statement_init prog_8_method_1_code 1 none :: zd_ww) { frames := 1, cells := 0, slots := 0, locals := 30 }).room := ⟨_, rfl⟩
  rw [← hR]
  obtain ⟨QQ, hQ⟩ : ∃ z, z = MQ below (zk_Q 2 D cA ad A b 73 (zk_f_Statement_init_73 σ)) args s 0 0 A := ⟨_, rfl⟩
  rw [← hQ]
  have hR1 : 1 ≤ RR.frames := by rw [hR]; exact Nat.le_refl _
  have hR2 : 30 ≤ RR.locals := by rw [hR]; exact Nat.le_refl _
  have hR3 : 0 ≤ RR.cells := by rw [hR]; exact Nat.le_refl _
  have hR4 : 0 ≤ RR.slots := by rw [hR]; exact Nat.le_refl _
  generalize s.heap = H at hw ⊢
  generalize ([] : List Loc) = locs at hw ⊢
  refine lv_aload_n hx hb d_Statement_init_0 rfl (lv_at hl 0 rfl) ?_
  refine W.objInit hx hb hown (hts _ zn2_57) (hts _ zn2_1) (hts _ zn2_2) rfl (by rw [hml]; exact hl.1) rfl d_Statement_init_1 (Nat.le_trans (by decide) hR1) (Nat.le_trans (Nat.le_of_ble_eq_true rfl) hR2) ?_
  refine W.eq (g2 := F0 m 4 ls []) rfl ?_
  refine lv_aload_n hx hb d_Statement_init_4 rfl (lv_at hl 0 rfl) ?_
  refine va_gets (C := "ScheduleCheck$Kind") (n := "STOP") (d := "LScheduleCheck$Kind;") (v := .ref (ad 1109)) hx hb ((G.2.2.2.1.1 rfl).2.2.1.1 9 (by decide)).1 hw.2.2.1 hown (hts _ zn2_58) (fun _ h => h) d_Statement_init_5 ?_
  refine zk_putr (ci := 6) G hw 73 0 (by decide) (by decide) zi_6 t_zd6 t_zd6_ok n_zd6 rfl rfl rfl (by decide) rfl zn2_59 (fun _ h => h) rfl  (x := 1109) (by decide) (t_zd6_ok 0 (by decide)) rfl rfl d_Statement_init_8 (fun H locs hw => ?_)
  exact zk_vret G hw hr hlocks hQ d_Statement_init_11
def zk_f_Statement_init_74 (σ : zs_S) : zs_S := (zs_wr σ 74 0 1109)
set_option maxHeartbeats 8000000 in
set_option maxRecDepth 100000 in
theorem zk_Statement_init_74 {l : Launch} {D : va_G} {cA : Nat → ClassId} {ad : Nat → Nat} {A : Nat → Prop} {b : Nat} {σ : zs_S} (hJ : zs_J ad) (had : ∀ o, 1 ≤ o → o ≤ zd_M 2 → ad o = b + (o - 1)) (hA : ∀ q, b ≤ q → A q) : Met l y_Statement_init (.code y_Statement_init prog_8_method_1_code 1 none :: zd_ww) { frames := 1, cells := 0, slots := 0, locals := 30 } (va_Pc [.ref (ad 74)] (zk_U 2 D cA ad A b 74 σ)) (zk_Q 2 D cA ad A b 74 (zk_f_Statement_init_74 σ)) 0 0 A := by
  refine Met.ofW (cc := prog_8_method_1_code) (maxL := 1) (ret := none) (by decide) rfl ?_
  intro p e s m args below meth c s₁ B hml hv
  obtain ⟨hargs, hP, hK, hD, hZ, hz, hd, hO⟩ := hv
  have G : zk_G 2 p s m args c prog_8_method_1_code 1 "ScheduleCheck$Statement" D cA ad A b := ⟨⟨B.exec, B.bytes, hml, findClass_of_methodNamed B.named, fun w h => atoms_spec B.pre w (List.mem_cons_of_mem _ h)⟩, hK, hJ, hZ, had, hA, hO⟩
  have hw : zk_I 2 D cA ad A s b 74 σ s.heap [] := ⟨hP, hD, va_S.rf, hz, hd⟩
  have hx := G.1.1
  have hb := G.1.2.1
  have hown := G.1.2.2.2.1
  have hts := G.1.2.2.2.2
  have hr := B.returns
  have hlocks := B.notSynchronized
  have hin : meth.name = "<init>" := (name_of_methodNamed B.named B.method).1
  have he : entryFrame m args 1 = F0 m 0 ((lg_sl [.ref (ad 74)] ++ List.replicate (1 - (lg_sl [.ref (ad 74)]).length) Slot.unset).toArray) [] := by rw [hargs]; exact lg_entry_eq m _ 1
  have hl := lv_entry [.ref (ad 74)] (n := 1) (Nat.le_of_ble_eq_true rfl)
  rw [he]
  generalize (lg_sl [.ref (ad 74)] ++ List.replicate (1 - (lg_sl [.ref (ad 74)]).length) Slot.unset).toArray = ls at hl
  have hl : lv_has ls 1 [(0, .ref (ad 74))] := hl
  obtain ⟨RR, hR⟩ : ∃ z, z = (headSpec (.code y_Statement_init prog_8_method_1_code 1 none :: zd_ww) { frames := 1, cells := 0, slots := 0, locals := 30 }).room := ⟨_, rfl⟩
  rw [← hR]
  obtain ⟨QQ, hQ⟩ : ∃ z, z = MQ below (zk_Q 2 D cA ad A b 74 (zk_f_Statement_init_74 σ)) args s 0 0 A := ⟨_, rfl⟩
  rw [← hQ]
  have hR1 : 1 ≤ RR.frames := by rw [hR]; exact Nat.le_refl _
  have hR2 : 30 ≤ RR.locals := by rw [hR]; exact Nat.le_refl _
  have hR3 : 0 ≤ RR.cells := by rw [hR]; exact Nat.le_refl _
  have hR4 : 0 ≤ RR.slots := by rw [hR]; exact Nat.le_refl _
  generalize s.heap = H at hw ⊢
  generalize ([] : List Loc) = locs at hw ⊢
  refine lv_aload_n hx hb d_Statement_init_0 rfl (lv_at hl 0 rfl) ?_
  refine W.objInit hx hb hown (hts _ zn2_57) (hts _ zn2_1) (hts _ zn2_2) rfl (by rw [hml]; exact hl.1) rfl d_Statement_init_1 (Nat.le_trans (by decide) hR1) (Nat.le_trans (Nat.le_of_ble_eq_true rfl) hR2) ?_
  refine W.eq (g2 := F0 m 4 ls []) rfl ?_
  refine lv_aload_n hx hb d_Statement_init_4 rfl (lv_at hl 0 rfl) ?_
  refine va_gets (C := "ScheduleCheck$Kind") (n := "STOP") (d := "LScheduleCheck$Kind;") (v := .ref (ad 1109)) hx hb ((G.2.2.2.1.1 rfl).2.2.1.1 9 (by decide)).1 hw.2.2.1 hown (hts _ zn2_58) (fun _ h => h) d_Statement_init_5 ?_
  refine zk_putr (ci := 6) G hw 74 0 (by decide) (by decide) zi_6 t_zd6 t_zd6_ok n_zd6 rfl rfl rfl (by decide) rfl zn2_59 (fun _ h => h) rfl  (x := 1109) (by decide) (t_zd6_ok 0 (by decide)) rfl rfl d_Statement_init_8 (fun H locs hw => ?_)
  exact zk_vret G hw hr hlocks hQ d_Statement_init_11
def y_Code_init : MethodName := ⟨"ScheduleCheck$Code","<init>","()V"⟩
theorem d_Code_init_0 : decode prog_3_method_1_code 0 = .ok (.aload_n 0, 1) := by decide +kernel
theorem d_Code_init_1 : decode prog_3_method_1_code 1 = .ok (.invokespecial 3, 3) := by decide +kernel
theorem d_Code_init_4 : decode prog_3_method_1_code 4 = .ok (.aload_n 0, 1) := by decide +kernel
theorem d_Code_init_5 : decode prog_3_method_1_code 5 = .ok (.sipush 1600, 3) := by decide +kernel
theorem d_Code_init_8 : decode prog_3_method_1_code 8 = .ok (.anewarray 9, 3) := by decide +kernel
theorem d_Code_init_11 : decode prog_3_method_1_code 11 = .ok (.putfield 11, 3) := by decide +kernel
theorem d_Code_init_14 : decode prog_3_method_1_code 14 = .ok (.aload_n 0, 1) := by decide +kernel
theorem d_Code_init_15 : decode prog_3_method_1_code 15 = .ok (.sipush 1600, 3) := by decide +kernel
theorem d_Code_init_18 : decode prog_3_method_1_code 18 = .ok (.newarray .int, 2) := by decide +kernel
theorem d_Code_init_20 : decode prog_3_method_1_code 20 = .ok (.putfield 17, 3) := by decide +kernel
theorem d_Code_init_23 : decode prog_3_method_1_code 23 = .ok (.aload_n 0, 1) := by decide +kernel
theorem d_Code_init_24 : decode prog_3_method_1_code 24 = .ok (.sipush 150, 3) := by decide +kernel
theorem d_Code_init_27 : decode prog_3_method_1_code 27 = .ok (.newarray .int, 2) := by decide +kernel
theorem d_Code_init_29 : decode prog_3_method_1_code 29 = .ok (.putfield 21, 3) := by decide +kernel
theorem d_Code_init_32 : decode prog_3_method_1_code 32 = .ok (.return_, 1) := by decide +kernel
def zk_f_Code_init_75 (σ : zs_S) : zs_S := (zs_wr (zs_wr (zs_wr σ 75 0 76) 75 1 77) 75 2 78)
set_option maxHeartbeats 8000000 in
set_option maxRecDepth 100000 in
theorem zk_Code_init_75 {l : Launch} {D : va_G} {cA : Nat → ClassId} {ad : Nat → Nat} {A : Nat → Prop} {b : Nat} {σ : zs_S} (hJ : zs_J ad) (had : ∀ o, 1 ≤ o → o ≤ zd_M 2 → ad o = b + (o - 1)) (hA : ∀ q, b ≤ q → A q) : Met l y_Code_init (.code y_Code_init prog_3_method_1_code 1 none :: zd_ww) { frames := 1, cells := 3, slots := 3350, locals := 30 } (va_Pc [.ref (ad 75)] (zk_U 2 D cA ad A b 75 σ)) (zk_Q 2 D cA ad A b 78 (zk_f_Code_init_75 σ)) 3 3350 A := by
  refine Met.ofW (cc := prog_3_method_1_code) (maxL := 1) (ret := none) (by decide) rfl ?_
  intro p e s m args below meth c s₁ B hml hv
  obtain ⟨hargs, hP, hK, hD, hZ, hz, hd, hO⟩ := hv
  have G : zk_G 2 p s m args c prog_3_method_1_code 1 "ScheduleCheck$Code" D cA ad A b := ⟨⟨B.exec, B.bytes, hml, findClass_of_methodNamed B.named, fun w h => atoms_spec B.pre w (List.mem_cons_of_mem _ h)⟩, hK, hJ, hZ, had, hA, hO⟩
  have hw : zk_I 2 D cA ad A s b 75 σ s.heap [] := ⟨hP, hD, va_S.rf, hz, hd⟩
  have hx := G.1.1
  have hb := G.1.2.1
  have hown := G.1.2.2.2.1
  have hts := G.1.2.2.2.2
  have hr := B.returns
  have hlocks := B.notSynchronized
  have hin : meth.name = "<init>" := (name_of_methodNamed B.named B.method).1
  have he : entryFrame m args 1 = F0 m 0 ((lg_sl [.ref (ad 75)] ++ List.replicate (1 - (lg_sl [.ref (ad 75)]).length) Slot.unset).toArray) [] := by rw [hargs]; exact lg_entry_eq m _ 1
  have hl := lv_entry [.ref (ad 75)] (n := 1) (Nat.le_of_ble_eq_true rfl)
  rw [he]
  generalize (lg_sl [.ref (ad 75)] ++ List.replicate (1 - (lg_sl [.ref (ad 75)]).length) Slot.unset).toArray = ls at hl
  have hl : lv_has ls 1 [(0, .ref (ad 75))] := hl
  obtain ⟨RR, hR⟩ : ∃ z, z = (headSpec (.code y_Code_init prog_3_method_1_code 1 none :: zd_ww) { frames := 1, cells := 3, slots := 3350, locals := 30 }).room := ⟨_, rfl⟩
  rw [← hR]
  obtain ⟨QQ, hQ⟩ : ∃ z, z = MQ below (zk_Q 2 D cA ad A b 78 (zk_f_Code_init_75 σ)) args s 3 3350 A := ⟨_, rfl⟩
  rw [← hQ]
  have hR1 : 1 ≤ RR.frames := by rw [hR]; exact Nat.le_refl _
  have hR2 : 30 ≤ RR.locals := by rw [hR]; exact Nat.le_refl _
  have hR3 : 3 ≤ RR.cells := by rw [hR]; exact Nat.le_refl _
  have hR4 : 3350 ≤ RR.slots := by rw [hR]; exact Nat.le_refl _
  generalize s.heap = H at hw ⊢
  generalize ([] : List Loc) = locs at hw ⊢
  refine lv_aload_n hx hb d_Code_init_0 rfl (lv_at hl 0 rfl) ?_
  refine W.objInit hx hb hown (hts _ zn2_66) (hts _ zn2_1) (hts _ zn2_2) rfl (by rw [hml]; exact hl.1) rfl d_Code_init_1 (Nat.le_trans (by decide) hR1) (Nat.le_trans (Nat.le_of_ble_eq_true rfl) hR2) ?_
  refine W.eq (g2 := F0 m 4 ls []) rfl ?_
  refine lv_aload_n hx hb d_Code_init_4 rfl (lv_at hl 0 rfl) ?_
  refine lv_sipush (v := 1600) hx hb d_Code_init_5 (by decide) ?_
  refine zk_newq (t := 4) (N := 1600) (n := 1600) G hw zn2_67 ((G.2.2.2.2.2.2.1 rfl).1) rfl (by decide) rfl (by decide) (by decide) (by decide) (by decide) (Nat.le_trans (by decide) hR3) (Nat.le_trans (by decide) hR4) d_Code_init_8 (fun H hw => ?_)
  refine W.widen (k := 1) (n := 1600) (by decide) (by decide) ?_
  refine zk_putF (ci := 7) G hw 75 0 (by decide) (by decide) zi_7 t_zd7 t_zd7_ok n_zd7 rfl rfl rfl (by decide) rfl zn2_68 (fun _ h => h) rfl hin rfl (x := 76) (by decide) (t_zd7_ok 0 (by decide)) rfl rfl d_Code_init_11 (fun H locs hw => ?_)
  refine lv_aload_n hx hb d_Code_init_14 rfl (lv_at hl 0 rfl) ?_
  refine lv_sipush (v := 1600) hx hb d_Code_init_15 (by decide) ?_
  refine zk_newa (atype := .int) (t := 0) (N := 1600) (n := 1600) G hw zn2_11 rfl (by decide) rfl (by decide) (by decide) (by decide) (by decide) (Nat.le_trans (by decide) hR3) (Nat.le_trans (by decide) hR4) d_Code_init_18 (fun H hw => ?_)
  refine W.widen (k := 2) (n := 3200) (by decide) (by decide) ?_
  refine zk_putF (ci := 7) G hw 75 1 (by decide) (by decide) zi_7 t_zd7 t_zd7_ok n_zd7 rfl rfl rfl (by decide) rfl zn2_69 (fun _ h => h) rfl hin rfl (x := 77) (by decide) (t_zd7_ok 1 (by decide)) rfl rfl d_Code_init_20 (fun H locs hw => ?_)
  refine lv_aload_n hx hb d_Code_init_23 rfl (lv_at hl 0 rfl) ?_
  refine lv_sipush (v := 150) hx hb d_Code_init_24 (by decide) ?_
  refine zk_newa (atype := .int) (t := 0) (N := 150) (n := 150) G hw zn2_11 rfl (by decide) rfl (by decide) (by decide) (by decide) (by decide) (Nat.le_trans (by decide) hR3) (Nat.le_trans (by decide) hR4) d_Code_init_27 (fun H hw => ?_)
  refine W.widen (k := 3) (n := 3350) (by decide) (by decide) ?_
  refine zk_putF (ci := 7) G hw 75 2 (by decide) (by decide) zi_7 t_zd7 t_zd7_ok n_zd7 rfl rfl rfl (by decide) rfl zn2_70 (fun _ h => h) rfl hin rfl (x := 78) (by decide) (t_zd7_ok 2 (by decide)) rfl rfl d_Code_init_29 (fun H locs hw => ?_)
  exact zk_vret G hw hr hlocks hQ d_Code_init_32
def y_Program_init : MethodName := ⟨"ScheduleCheck$Program","<init>","()V"⟩
theorem d_Program_init_0 : decode prog_7_method_1_code 0 = .ok (.aload_n 0, 1) := by decide +kernel
theorem d_Program_init_1 : decode prog_7_method_1_code 1 = .ok (.invokespecial 3, 3) := by decide +kernel
theorem d_Program_init_4 : decode prog_7_method_1_code 4 = .ok (.aload_n 0, 1) := by decide +kernel
theorem d_Program_init_5 : decode prog_7_method_1_code 5 = .ok (.bipush 8, 2) := by decide +kernel
theorem d_Program_init_7 : decode prog_7_method_1_code 7 = .ok (.newarray .int, 2) := by decide +kernel
theorem d_Program_init_9 : decode prog_7_method_1_code 9 = .ok (.putfield 9, 3) := by decide +kernel
theorem d_Program_init_12 : decode prog_7_method_1_code 12 = .ok (.aload_n 0, 1) := by decide +kernel
theorem d_Program_init_13 : decode prog_7_method_1_code 13 = .ok (.iconst 4, 1) := by decide +kernel
theorem d_Program_init_14 : decode prog_7_method_1_code 14 = .ok (.newarray .int, 2) := by decide +kernel
theorem d_Program_init_16 : decode prog_7_method_1_code 16 = .ok (.putfield 15, 3) := by decide +kernel
theorem d_Program_init_19 : decode prog_7_method_1_code 19 = .ok (.aload_n 0, 1) := by decide +kernel
theorem d_Program_init_20 : decode prog_7_method_1_code 20 = .ok (.iconst 4, 1) := by decide +kernel
theorem d_Program_init_21 : decode prog_7_method_1_code 21 = .ok (.newarray .int, 2) := by decide +kernel
theorem d_Program_init_23 : decode prog_7_method_1_code 23 = .ok (.putfield 18, 3) := by decide +kernel
theorem d_Program_init_26 : decode prog_7_method_1_code 26 = .ok (.aload_n 0, 1) := by decide +kernel
theorem d_Program_init_27 : decode prog_7_method_1_code 27 = .ok (.bipush 50, 2) := by decide +kernel
theorem d_Program_init_29 : decode prog_7_method_1_code 29 = .ok (.anewarray 21, 3) := by decide +kernel
theorem d_Program_init_32 : decode prog_7_method_1_code 32 = .ok (.putfield 23, 3) := by decide +kernel
theorem d_Program_init_35 : decode prog_7_method_1_code 35 = .ok (.iconst 0, 1) := by decide +kernel
theorem d_Program_init_36 : decode prog_7_method_1_code 36 = .ok (.istore_n 1, 1) := by decide +kernel
theorem d_Program_init_37 : decode prog_7_method_1_code 37 = .ok (.iload_n 1, 1) := by decide +kernel
theorem d_Program_init_38 : decode prog_7_method_1_code 38 = .ok (.bipush 50, 2) := by decide +kernel
theorem d_Program_init_40 : decode prog_7_method_1_code 40 = .ok (.if_icmp .ge 22, 3) := by decide +kernel
theorem d_Program_init_43 : decode prog_7_method_1_code 43 = .ok (.aload_n 0, 1) := by decide +kernel
theorem d_Program_init_44 : decode prog_7_method_1_code 44 = .ok (.getfield 23, 3) := by decide +kernel
theorem d_Program_init_47 : decode prog_7_method_1_code 47 = .ok (.iload_n 1, 1) := by decide +kernel
theorem d_Program_init_48 : decode prog_7_method_1_code 48 = .ok (.new 21, 3) := by decide +kernel
theorem d_Program_init_51 : decode prog_7_method_1_code 51 = .ok (.dup, 1) := by decide +kernel
theorem d_Program_init_52 : decode prog_7_method_1_code 52 = .ok (.invokespecial 27, 3) := by decide +kernel
theorem d_Program_init_55 : decode prog_7_method_1_code 55 = .ok (.aastore, 1) := by decide +kernel
theorem d_Program_init_56 : decode prog_7_method_1_code 56 = .ok (.iinc 1 1, 3) := by decide +kernel
theorem d_Program_init_59 : decode prog_7_method_1_code 59 = .ok (.goto (-22), 3) := by decide +kernel
theorem d_Program_init_62 : decode prog_7_method_1_code 62 = .ok (.aload_n 0, 1) := by decide +kernel
theorem d_Program_init_63 : decode prog_7_method_1_code 63 = .ok (.new 28, 3) := by decide +kernel
theorem d_Program_init_66 : decode prog_7_method_1_code 66 = .ok (.dup, 1) := by decide +kernel
theorem d_Program_init_67 : decode prog_7_method_1_code 67 = .ok (.invokespecial 30, 3) := by decide +kernel
theorem d_Program_init_70 : decode prog_7_method_1_code 70 = .ok (.putfield 31, 3) := by decide +kernel
theorem d_Program_init_73 : decode prog_7_method_1_code 73 = .ok (.return_, 1) := by decide +kernel
def zk_f_Program_init_20 (σ : zs_S) : zs_S := (zs_wr (zk_f_Code_init_75 (zs_wr (zk_f_Statement_init_74 (zs_wr (zk_f_Statement_init_73 (zs_wr (zk_f_Statement_init_72 (zs_wr (zk_f_Statement_init_71 (zs_wr (zk_f_Statement_init_70 (zs_wr (zk_f_Statement_init_69 (zs_wr (zk_f_Statement_init_68 (zs_wr (zk_f_Statement_init_67 (zs_wr (zk_f_Statement_init_66 (zs_wr (zk_f_Statement_init_65 (zs_wr (zk_f_Statement_init_64 (zs_wr (zk_f_Statement_init_63 (zs_wr (zk_f_Statement_init_62 (zs_wr (zk_f_Statement_init_61 (zs_wr (zk_f_Statement_init_60 (zs_wr (zk_f_Statement_init_59 (zs_wr (zk_f_Statement_init_58 (zs_wr (zk_f_Statement_init_57 (zs_wr (zk_f_Statement_init_56 (zs_wr (zk_f_Statement_init_55 (zs_wr (zk_f_Statement_init_54 (zs_wr (zk_f_Statement_init_53 (zs_wr (zk_f_Statement_init_52 (zs_wr (zk_f_Statement_init_51 (zs_wr (zk_f_Statement_init_50 (zs_wr (zk_f_Statement_init_49 (zs_wr (zk_f_Statement_init_48 (zs_wr (zk_f_Statement_init_47 (zs_wr (zk_f_Statement_init_46 (zs_wr (zk_f_Statement_init_45 (zs_wr (zk_f_Statement_init_44 (zs_wr (zk_f_Statement_init_43 (zs_wr (zk_f_Statement_init_42 (zs_wr (zk_f_Statement_init_41 (zs_wr (zk_f_Statement_init_40 (zs_wr (zk_f_Statement_init_39 (zs_wr (zk_f_Statement_init_38 (zs_wr (zk_f_Statement_init_37 (zs_wr (zk_f_Statement_init_36 (zs_wr (zk_f_Statement_init_35 (zs_wr (zk_f_Statement_init_34 (zs_wr (zk_f_Statement_init_33 (zs_wr (zk_f_Statement_init_32 (zs_wr (zk_f_Statement_init_31 (zs_wr (zk_f_Statement_init_30 (zs_wr (zk_f_Statement_init_29 (zs_wr (zk_f_Statement_init_28 (zs_wr (zk_f_Statement_init_27 (zs_wr (zk_f_Statement_init_26 (zs_wr (zk_f_Statement_init_25 (zs_wr (zs_wr (zs_wr (zs_wr σ 20 4 21) 20 5 22) 20 6 23) 20 7 24)) 24 (0 : Int32).toNatClampNeg 25)) 24 (1 : Int32).toNatClampNeg 26)) 24 (2 : Int32).toNatClampNeg 27)) 24 (3 : Int32).toNatClampNeg 28)) 24 (4 : Int32).toNatClampNeg 29)) 24 (5 : Int32).toNatClampNeg 30)) 24 (6 : Int32).toNatClampNeg 31)) 24 (7 : Int32).toNatClampNeg 32)) 24 (8 : Int32).toNatClampNeg 33)) 24 (9 : Int32).toNatClampNeg 34)) 24 (10 : Int32).toNatClampNeg 35)) 24 (11 : Int32).toNatClampNeg 36)) 24 (12 : Int32).toNatClampNeg 37)) 24 (13 : Int32).toNatClampNeg 38)) 24 (14 : Int32).toNatClampNeg 39)) 24 (15 : Int32).toNatClampNeg 40)) 24 (16 : Int32).toNatClampNeg 41)) 24 (17 : Int32).toNatClampNeg 42)) 24 (18 : Int32).toNatClampNeg 43)) 24 (19 : Int32).toNatClampNeg 44)) 24 (20 : Int32).toNatClampNeg 45)) 24 (21 : Int32).toNatClampNeg 46)) 24 (22 : Int32).toNatClampNeg 47)) 24 (23 : Int32).toNatClampNeg 48)) 24 (24 : Int32).toNatClampNeg 49)) 24 (25 : Int32).toNatClampNeg 50)) 24 (26 : Int32).toNatClampNeg 51)) 24 (27 : Int32).toNatClampNeg 52)) 24 (28 : Int32).toNatClampNeg 53)) 24 (29 : Int32).toNatClampNeg 54)) 24 (30 : Int32).toNatClampNeg 55)) 24 (31 : Int32).toNatClampNeg 56)) 24 (32 : Int32).toNatClampNeg 57)) 24 (33 : Int32).toNatClampNeg 58)) 24 (34 : Int32).toNatClampNeg 59)) 24 (35 : Int32).toNatClampNeg 60)) 24 (36 : Int32).toNatClampNeg 61)) 24 (37 : Int32).toNatClampNeg 62)) 24 (38 : Int32).toNatClampNeg 63)) 24 (39 : Int32).toNatClampNeg 64)) 24 (40 : Int32).toNatClampNeg 65)) 24 (41 : Int32).toNatClampNeg 66)) 24 (42 : Int32).toNatClampNeg 67)) 24 (43 : Int32).toNatClampNeg 68)) 24 (44 : Int32).toNatClampNeg 69)) 24 (45 : Int32).toNatClampNeg 70)) 24 (46 : Int32).toNatClampNeg 71)) 24 (47 : Int32).toNatClampNeg 72)) 24 (48 : Int32).toNatClampNeg 73)) 24 (49 : Int32).toNatClampNeg 74)) 20 8 75)
set_option maxHeartbeats 8000000 in
set_option maxRecDepth 100000 in
theorem zk_Program_init_20 {l : Launch} {D : va_G} {cA : Nat → ClassId} {ad : Nat → Nat} {A : Nat → Prop} {b : Nat} {σ : zs_S} (hJ : zs_J ad) (had : ∀ o, 1 ≤ o → o ≤ zd_M 2 → ad o = b + (o - 1)) (hA : ∀ q, b ≤ q → A q) : Met l y_Program_init (.code y_Program_init prog_7_method_1_code 2 none :: zd_ww) { frames := 2, cells := 58, slots := 3870, locals := 50 } (va_Pc [.ref (ad 20)] (zk_U 2 D cA ad A b 20 σ)) (zk_Q 2 D cA ad A b 78 (zk_f_Program_init_20 σ)) 58 3870 A := by
  refine Met.ofW (cc := prog_7_method_1_code) (maxL := 2) (ret := none) (by decide) rfl ?_
  intro p e s m args below meth c s₁ B hml hv
  obtain ⟨hargs, hP, hK, hD, hZ, hz, hd, hO⟩ := hv
  have G : zk_G 2 p s m args c prog_7_method_1_code 2 "ScheduleCheck$Program" D cA ad A b := ⟨⟨B.exec, B.bytes, hml, findClass_of_methodNamed B.named, fun w h => atoms_spec B.pre w (List.mem_cons_of_mem _ h)⟩, hK, hJ, hZ, had, hA, hO⟩
  have hw : zk_I 2 D cA ad A s b 20 σ s.heap [] := ⟨hP, hD, va_S.rf, hz, hd⟩
  have hx := G.1.1
  have hb := G.1.2.1
  have hown := G.1.2.2.2.1
  have hts := G.1.2.2.2.2
  have hr := B.returns
  have hlocks := B.notSynchronized
  have hin : meth.name = "<init>" := (name_of_methodNamed B.named B.method).1
  have he : entryFrame m args 2 = F0 m 0 ((lg_sl [.ref (ad 20)] ++ List.replicate (2 - (lg_sl [.ref (ad 20)]).length) Slot.unset).toArray) [] := by rw [hargs]; exact lg_entry_eq m _ 2
  have hl := lv_entry [.ref (ad 20)] (n := 2) (Nat.le_of_ble_eq_true rfl)
  rw [he]
  generalize (lg_sl [.ref (ad 20)] ++ List.replicate (2 - (lg_sl [.ref (ad 20)]).length) Slot.unset).toArray = ls at hl
  have hl : lv_has ls 2 [(0, .ref (ad 20))] := hl
  obtain ⟨RR, hR⟩ : ∃ z, z = (headSpec (.code y_Program_init prog_7_method_1_code 2 none :: zd_ww) { frames := 2, cells := 58, slots := 3870, locals := 50 }).room := ⟨_, rfl⟩
  rw [← hR]
  obtain ⟨QQ, hQ⟩ : ∃ z, z = MQ below (zk_Q 2 D cA ad A b 78 (zk_f_Program_init_20 σ)) args s 58 3870 A := ⟨_, rfl⟩
  rw [← hQ]
  have hR1 : 2 ≤ RR.frames := by rw [hR]; exact Nat.le_refl _
  have hR2 : 50 ≤ RR.locals := by rw [hR]; exact Nat.le_refl _
  have hR3 : 58 ≤ RR.cells := by rw [hR]; exact Nat.le_refl _
  have hR4 : 3870 ≤ RR.slots := by rw [hR]; exact Nat.le_refl _
  generalize s.heap = H at hw ⊢
  generalize ([] : List Loc) = locs at hw ⊢
  refine lv_aload_n hx hb d_Program_init_0 rfl (lv_at hl 0 rfl) ?_
  refine W.objInit hx hb hown (hts _ zn2_49) (hts _ zn2_1) (hts _ zn2_2) rfl (by rw [hml]; exact hl.1) rfl d_Program_init_1 (Nat.le_trans (by decide) hR1) (Nat.le_trans (Nat.le_of_ble_eq_true rfl) hR2) ?_
  refine W.eq (g2 := F0 m 4 ls []) rfl ?_
  refine lv_aload_n hx hb d_Program_init_4 rfl (lv_at hl 0 rfl) ?_
  refine lv_bipush (v := 8) hx hb d_Program_init_5 (by decide) ?_
  refine zk_newa (atype := .int) (t := 0) (N := 8) (n := 8) G hw zn2_11 rfl (by decide) rfl (by decide) (by decide) (by decide) (by decide) (Nat.le_trans (by decide) hR3) (Nat.le_trans (by decide) hR4) d_Program_init_7 (fun H hw => ?_)
  refine W.widen (k := 1) (n := 8) (by decide) (by decide) ?_
  refine zk_putF (ci := 5) G hw 20 4 (by decide) (by decide) zi_5 t_zd5 t_zd5_ok n_zd5 rfl rfl rfl (by decide) rfl zn2_50 (fun _ h => h) rfl hin rfl (x := 21) (by decide) (t_zd5_ok 4 (by decide)) rfl rfl d_Program_init_9 (fun H locs hw => ?_)
  refine lv_aload_n hx hb d_Program_init_12 rfl (lv_at hl 0 rfl) ?_
  refine lv_iconst (v := 4) hx hb d_Program_init_13 (by decide) ?_
  refine zk_newa (atype := .int) (t := 0) (N := 4) (n := 4) G hw zn2_11 rfl (by decide) rfl (by decide) (by decide) (by decide) (by decide) (Nat.le_trans (by decide) hR3) (Nat.le_trans (by decide) hR4) d_Program_init_14 (fun H hw => ?_)
  refine W.widen (k := 2) (n := 12) (by decide) (by decide) ?_
  refine zk_putF (ci := 5) G hw 20 5 (by decide) (by decide) zi_5 t_zd5 t_zd5_ok n_zd5 rfl rfl rfl (by decide) rfl zn2_51 (fun _ h => h) rfl hin rfl (x := 22) (by decide) (t_zd5_ok 5 (by decide)) rfl rfl d_Program_init_16 (fun H locs hw => ?_)
  refine lv_aload_n hx hb d_Program_init_19 rfl (lv_at hl 0 rfl) ?_
  refine lv_iconst (v := 4) hx hb d_Program_init_20 (by decide) ?_
  refine zk_newa (atype := .int) (t := 0) (N := 4) (n := 4) G hw zn2_11 rfl (by decide) rfl (by decide) (by decide) (by decide) (by decide) (Nat.le_trans (by decide) hR3) (Nat.le_trans (by decide) hR4) d_Program_init_21 (fun H hw => ?_)
  refine W.widen (k := 3) (n := 16) (by decide) (by decide) ?_
  refine zk_putF (ci := 5) G hw 20 6 (by decide) (by decide) zi_5 t_zd5 t_zd5_ok n_zd5 rfl rfl rfl (by decide) rfl zn2_52 (fun _ h => h) rfl hin rfl (x := 23) (by decide) (t_zd5_ok 6 (by decide)) rfl rfl d_Program_init_23 (fun H locs hw => ?_)
  refine lv_aload_n hx hb d_Program_init_26 rfl (lv_at hl 0 rfl) ?_
  refine lv_bipush (v := 50) hx hb d_Program_init_27 (by decide) ?_
  refine zk_newq (t := 7) (N := 50) (n := 50) G hw zn2_53 ((G.2.2.2.2.2.2.1 rfl).2) rfl (by decide) rfl (by decide) (by decide) (by decide) (by decide) (Nat.le_trans (by decide) hR3) (Nat.le_trans (by decide) hR4) d_Program_init_29 (fun H hw => ?_)
  refine W.widen (k := 4) (n := 66) (by decide) (by decide) ?_
  refine zk_putF (ci := 5) G hw 20 7 (by decide) (by decide) zi_5 t_zd5 t_zd5_ok n_zd5 rfl rfl rfl (by decide) rfl zn2_54 (fun _ h => h) rfl hin rfl (x := 24) (by decide) (t_zd5_ok 7 (by decide)) rfl rfl d_Program_init_32 (fun H locs hw => ?_)
  refine lv_iconst (v := 0) hx hb d_Program_init_35 (by decide) ?_
  refine lv_istore_n hx hb d_Program_init_36 rfl hl (by decide) rfl (fun ls hl => ?_)
  have hl : lv_has ls 2 [(1, .int 0), (0, .ref (ad 20))] := hl
  refine lv_iload_n hx hb d_Program_init_37 rfl (lv_at hl 0 rfl) ?_
  refine lv_bipush (v := 50) hx hb d_Program_init_38 (by decide) ?_
  refine lv_icmp_ge hx hb d_Program_init_40 (tgt := 62) rfl (fun hc => absurd hc (by decide)) (fun _ => ?_)
  refine lv_aload_n hx hb d_Program_init_43 rfl (lv_at hl 1 rfl) ?_
  refine zk_get (ci := 5) G hw 20 7 (by decide) zi_5 rfl rfl rfl (by decide) zn2_54 (fun _ h => h) (q := 24) rfl rfl (by decide) d_Program_init_44 ?_
  refine lv_iload_n hx hb d_Program_init_47 rfl (lv_at hl 0 rfl) ?_
  refine zk_new (ci := 6) G hw zi_6 t_zd6 t_zd6_ok rfl rfl rfl (by decide) (zh_6 ad _) zn2_53 zn2_55 zn2_56 (Nat.le_trans (by decide) hR3) (Nat.le_trans (by decide) hR4) d_Program_init_48 (fun H hw => ?_)
  refine W.widen (k := 5) (n := 75) (by decide) (by decide) ?_
  refine lv_dup hx hb d_Program_init_51 rfl ?_
  refine zk_call (rest := [.ref (ad 25), .int 0, .ref (ad 24)]) (o := 25) G hw [] (zk_Statement_init_25 hJ had hA) (cwI 0 hts (zs_gC zn2_60) rfl rfl rfl (hts _ zn2_56) (hts _ zn2_61) (hts _ zn2_62) rfl (by decide +kernel) ⟨Nat.le_trans (by decide) hR1, Nat.le_trans (by decide) hR2⟩) rfl hl.1 (Nat.le_of_ble_eq_true rfl) d_Program_init_52 ⟨Nat.le_trans (by decide) hR3, Nat.le_trans (by decide) hR4⟩ (fun H locs hw => ?_)
  refine W.widen (k := 5) (n := 75) (by decide) (by decide) ?_
  refine zk_aast (t := 7) (n := 50) (ci := 6) (x := 25) (i := 0) G hw 24 (by decide) (by decide) rfl rfl (by decide) rfl (by decide) rfl rfl (by decide) d_Program_init_55 (fun H locs hw => ?_)
  refine lv_iinc (v := 1) hx hb d_Program_init_56 hl (k := 0) rfl (by decide) (by decide) rfl (fun ls hl => ?_)
  have hl : lv_has ls 2 [(1, .int 1), (0, .ref (ad 20))] := hl
  refine lv_goto hx hb d_Program_init_59 (tgt := 37) rfl ?_
  refine lv_iload_n hx hb d_Program_init_37 rfl (lv_at hl 0 rfl) ?_
  refine lv_bipush (v := 50) hx hb d_Program_init_38 (by decide) ?_
  refine lv_icmp_ge hx hb d_Program_init_40 (tgt := 62) rfl (fun hc => absurd hc (by decide)) (fun _ => ?_)
  refine lv_aload_n hx hb d_Program_init_43 rfl (lv_at hl 1 rfl) ?_
  refine zk_get (ci := 5) G hw 20 7 (by decide) zi_5 rfl rfl rfl (by decide) zn2_54 (fun _ h => h) (q := 24) rfl rfl (by decide) d_Program_init_44 ?_
  refine lv_iload_n hx hb d_Program_init_47 rfl (lv_at hl 0 rfl) ?_
  refine zk_new (ci := 6) G hw zi_6 t_zd6 t_zd6_ok rfl rfl rfl (by decide) (zh_6 ad _) zn2_53 zn2_55 zn2_56 (Nat.le_trans (by decide) hR3) (Nat.le_trans (by decide) hR4) d_Program_init_48 (fun H hw => ?_)
  refine W.widen (k := 6) (n := 84) (by decide) (by decide) ?_
  refine lv_dup hx hb d_Program_init_51 rfl ?_
  refine zk_call (rest := [.ref (ad 26), .int 1, .ref (ad 24)]) (o := 26) G hw [] (zk_Statement_init_26 hJ had hA) (cwI 0 hts (zs_gC zn2_60) rfl rfl rfl (hts _ zn2_56) (hts _ zn2_61) (hts _ zn2_62) rfl (by decide +kernel) ⟨Nat.le_trans (by decide) hR1, Nat.le_trans (by decide) hR2⟩) rfl hl.1 (Nat.le_of_ble_eq_true rfl) d_Program_init_52 ⟨Nat.le_trans (by decide) hR3, Nat.le_trans (by decide) hR4⟩ (fun H locs hw => ?_)
  refine W.widen (k := 6) (n := 84) (by decide) (by decide) ?_
  refine zk_aast (t := 7) (n := 50) (ci := 6) (x := 26) (i := 1) G hw 24 (by decide) (by decide) rfl rfl (by decide) rfl (by decide) rfl rfl (by decide) d_Program_init_55 (fun H locs hw => ?_)
  refine lv_iinc (v := 2) hx hb d_Program_init_56 hl (k := 0) rfl (by decide) (by decide) rfl (fun ls hl => ?_)
  have hl : lv_has ls 2 [(1, .int 2), (0, .ref (ad 20))] := hl
  refine lv_goto hx hb d_Program_init_59 (tgt := 37) rfl ?_
  refine lv_iload_n hx hb d_Program_init_37 rfl (lv_at hl 0 rfl) ?_
  refine lv_bipush (v := 50) hx hb d_Program_init_38 (by decide) ?_
  refine lv_icmp_ge hx hb d_Program_init_40 (tgt := 62) rfl (fun hc => absurd hc (by decide)) (fun _ => ?_)
  refine lv_aload_n hx hb d_Program_init_43 rfl (lv_at hl 1 rfl) ?_
  refine zk_get (ci := 5) G hw 20 7 (by decide) zi_5 rfl rfl rfl (by decide) zn2_54 (fun _ h => h) (q := 24) rfl rfl (by decide) d_Program_init_44 ?_
  refine lv_iload_n hx hb d_Program_init_47 rfl (lv_at hl 0 rfl) ?_
  refine zk_new (ci := 6) G hw zi_6 t_zd6 t_zd6_ok rfl rfl rfl (by decide) (zh_6 ad _) zn2_53 zn2_55 zn2_56 (Nat.le_trans (by decide) hR3) (Nat.le_trans (by decide) hR4) d_Program_init_48 (fun H hw => ?_)
  refine W.widen (k := 7) (n := 93) (by decide) (by decide) ?_
  refine lv_dup hx hb d_Program_init_51 rfl ?_
  refine zk_call (rest := [.ref (ad 27), .int 2, .ref (ad 24)]) (o := 27) G hw [] (zk_Statement_init_27 hJ had hA) (cwI 0 hts (zs_gC zn2_60) rfl rfl rfl (hts _ zn2_56) (hts _ zn2_61) (hts _ zn2_62) rfl (by decide +kernel) ⟨Nat.le_trans (by decide) hR1, Nat.le_trans (by decide) hR2⟩) rfl hl.1 (Nat.le_of_ble_eq_true rfl) d_Program_init_52 ⟨Nat.le_trans (by decide) hR3, Nat.le_trans (by decide) hR4⟩ (fun H locs hw => ?_)
  refine W.widen (k := 7) (n := 93) (by decide) (by decide) ?_
  refine zk_aast (t := 7) (n := 50) (ci := 6) (x := 27) (i := 2) G hw 24 (by decide) (by decide) rfl rfl (by decide) rfl (by decide) rfl rfl (by decide) d_Program_init_55 (fun H locs hw => ?_)
  refine lv_iinc (v := 3) hx hb d_Program_init_56 hl (k := 0) rfl (by decide) (by decide) rfl (fun ls hl => ?_)
  have hl : lv_has ls 2 [(1, .int 3), (0, .ref (ad 20))] := hl
  refine lv_goto hx hb d_Program_init_59 (tgt := 37) rfl ?_
  refine lv_iload_n hx hb d_Program_init_37 rfl (lv_at hl 0 rfl) ?_
  refine lv_bipush (v := 50) hx hb d_Program_init_38 (by decide) ?_
  refine lv_icmp_ge hx hb d_Program_init_40 (tgt := 62) rfl (fun hc => absurd hc (by decide)) (fun _ => ?_)
  refine lv_aload_n hx hb d_Program_init_43 rfl (lv_at hl 1 rfl) ?_
  refine zk_get (ci := 5) G hw 20 7 (by decide) zi_5 rfl rfl rfl (by decide) zn2_54 (fun _ h => h) (q := 24) rfl rfl (by decide) d_Program_init_44 ?_
  refine lv_iload_n hx hb d_Program_init_47 rfl (lv_at hl 0 rfl) ?_
  refine zk_new (ci := 6) G hw zi_6 t_zd6 t_zd6_ok rfl rfl rfl (by decide) (zh_6 ad _) zn2_53 zn2_55 zn2_56 (Nat.le_trans (by decide) hR3) (Nat.le_trans (by decide) hR4) d_Program_init_48 (fun H hw => ?_)
  refine W.widen (k := 8) (n := 102) (by decide) (by decide) ?_
  refine lv_dup hx hb d_Program_init_51 rfl ?_
  refine zk_call (rest := [.ref (ad 28), .int 3, .ref (ad 24)]) (o := 28) G hw [] (zk_Statement_init_28 hJ had hA) (cwI 0 hts (zs_gC zn2_60) rfl rfl rfl (hts _ zn2_56) (hts _ zn2_61) (hts _ zn2_62) rfl (by decide +kernel) ⟨Nat.le_trans (by decide) hR1, Nat.le_trans (by decide) hR2⟩) rfl hl.1 (Nat.le_of_ble_eq_true rfl) d_Program_init_52 ⟨Nat.le_trans (by decide) hR3, Nat.le_trans (by decide) hR4⟩ (fun H locs hw => ?_)
  refine W.widen (k := 8) (n := 102) (by decide) (by decide) ?_
  refine zk_aast (t := 7) (n := 50) (ci := 6) (x := 28) (i := 3) G hw 24 (by decide) (by decide) rfl rfl (by decide) rfl (by decide) rfl rfl (by decide) d_Program_init_55 (fun H locs hw => ?_)
  refine lv_iinc (v := 4) hx hb d_Program_init_56 hl (k := 0) rfl (by decide) (by decide) rfl (fun ls hl => ?_)
  have hl : lv_has ls 2 [(1, .int 4), (0, .ref (ad 20))] := hl
  refine lv_goto hx hb d_Program_init_59 (tgt := 37) rfl ?_
  refine lv_iload_n hx hb d_Program_init_37 rfl (lv_at hl 0 rfl) ?_
  refine lv_bipush (v := 50) hx hb d_Program_init_38 (by decide) ?_
  refine lv_icmp_ge hx hb d_Program_init_40 (tgt := 62) rfl (fun hc => absurd hc (by decide)) (fun _ => ?_)
  refine lv_aload_n hx hb d_Program_init_43 rfl (lv_at hl 1 rfl) ?_
  refine zk_get (ci := 5) G hw 20 7 (by decide) zi_5 rfl rfl rfl (by decide) zn2_54 (fun _ h => h) (q := 24) rfl rfl (by decide) d_Program_init_44 ?_
  refine lv_iload_n hx hb d_Program_init_47 rfl (lv_at hl 0 rfl) ?_
  refine zk_new (ci := 6) G hw zi_6 t_zd6 t_zd6_ok rfl rfl rfl (by decide) (zh_6 ad _) zn2_53 zn2_55 zn2_56 (Nat.le_trans (by decide) hR3) (Nat.le_trans (by decide) hR4) d_Program_init_48 (fun H hw => ?_)
  refine W.widen (k := 9) (n := 111) (by decide) (by decide) ?_
  refine lv_dup hx hb d_Program_init_51 rfl ?_
  refine zk_call (rest := [.ref (ad 29), .int 4, .ref (ad 24)]) (o := 29) G hw [] (zk_Statement_init_29 hJ had hA) (cwI 0 hts (zs_gC zn2_60) rfl rfl rfl (hts _ zn2_56) (hts _ zn2_61) (hts _ zn2_62) rfl (by decide +kernel) ⟨Nat.le_trans (by decide) hR1, Nat.le_trans (by decide) hR2⟩) rfl hl.1 (Nat.le_of_ble_eq_true rfl) d_Program_init_52 ⟨Nat.le_trans (by decide) hR3, Nat.le_trans (by decide) hR4⟩ (fun H locs hw => ?_)
  refine W.widen (k := 9) (n := 111) (by decide) (by decide) ?_
  refine zk_aast (t := 7) (n := 50) (ci := 6) (x := 29) (i := 4) G hw 24 (by decide) (by decide) rfl rfl (by decide) rfl (by decide) rfl rfl (by decide) d_Program_init_55 (fun H locs hw => ?_)
  refine lv_iinc (v := 5) hx hb d_Program_init_56 hl (k := 0) rfl (by decide) (by decide) rfl (fun ls hl => ?_)
  have hl : lv_has ls 2 [(1, .int 5), (0, .ref (ad 20))] := hl
  refine lv_goto hx hb d_Program_init_59 (tgt := 37) rfl ?_
  refine lv_iload_n hx hb d_Program_init_37 rfl (lv_at hl 0 rfl) ?_
  refine lv_bipush (v := 50) hx hb d_Program_init_38 (by decide) ?_
  refine lv_icmp_ge hx hb d_Program_init_40 (tgt := 62) rfl (fun hc => absurd hc (by decide)) (fun _ => ?_)
  refine lv_aload_n hx hb d_Program_init_43 rfl (lv_at hl 1 rfl) ?_
  refine zk_get (ci := 5) G hw 20 7 (by decide) zi_5 rfl rfl rfl (by decide) zn2_54 (fun _ h => h) (q := 24) rfl rfl (by decide) d_Program_init_44 ?_
  refine lv_iload_n hx hb d_Program_init_47 rfl (lv_at hl 0 rfl) ?_
  refine zk_new (ci := 6) G hw zi_6 t_zd6 t_zd6_ok rfl rfl rfl (by decide) (zh_6 ad _) zn2_53 zn2_55 zn2_56 (Nat.le_trans (by decide) hR3) (Nat.le_trans (by decide) hR4) d_Program_init_48 (fun H hw => ?_)
  refine W.widen (k := 10) (n := 120) (by decide) (by decide) ?_
  refine lv_dup hx hb d_Program_init_51 rfl ?_
  refine zk_call (rest := [.ref (ad 30), .int 5, .ref (ad 24)]) (o := 30) G hw [] (zk_Statement_init_30 hJ had hA) (cwI 0 hts (zs_gC zn2_60) rfl rfl rfl (hts _ zn2_56) (hts _ zn2_61) (hts _ zn2_62) rfl (by decide +kernel) ⟨Nat.le_trans (by decide) hR1, Nat.le_trans (by decide) hR2⟩) rfl hl.1 (Nat.le_of_ble_eq_true rfl) d_Program_init_52 ⟨Nat.le_trans (by decide) hR3, Nat.le_trans (by decide) hR4⟩ (fun H locs hw => ?_)
  refine W.widen (k := 10) (n := 120) (by decide) (by decide) ?_
  refine zk_aast (t := 7) (n := 50) (ci := 6) (x := 30) (i := 5) G hw 24 (by decide) (by decide) rfl rfl (by decide) rfl (by decide) rfl rfl (by decide) d_Program_init_55 (fun H locs hw => ?_)
  refine lv_iinc (v := 6) hx hb d_Program_init_56 hl (k := 0) rfl (by decide) (by decide) rfl (fun ls hl => ?_)
  have hl : lv_has ls 2 [(1, .int 6), (0, .ref (ad 20))] := hl
  refine lv_goto hx hb d_Program_init_59 (tgt := 37) rfl ?_
  refine lv_iload_n hx hb d_Program_init_37 rfl (lv_at hl 0 rfl) ?_
  refine lv_bipush (v := 50) hx hb d_Program_init_38 (by decide) ?_
  refine lv_icmp_ge hx hb d_Program_init_40 (tgt := 62) rfl (fun hc => absurd hc (by decide)) (fun _ => ?_)
  refine lv_aload_n hx hb d_Program_init_43 rfl (lv_at hl 1 rfl) ?_
  refine zk_get (ci := 5) G hw 20 7 (by decide) zi_5 rfl rfl rfl (by decide) zn2_54 (fun _ h => h) (q := 24) rfl rfl (by decide) d_Program_init_44 ?_
  refine lv_iload_n hx hb d_Program_init_47 rfl (lv_at hl 0 rfl) ?_
  refine zk_new (ci := 6) G hw zi_6 t_zd6 t_zd6_ok rfl rfl rfl (by decide) (zh_6 ad _) zn2_53 zn2_55 zn2_56 (Nat.le_trans (by decide) hR3) (Nat.le_trans (by decide) hR4) d_Program_init_48 (fun H hw => ?_)
  refine W.widen (k := 11) (n := 129) (by decide) (by decide) ?_
  refine lv_dup hx hb d_Program_init_51 rfl ?_
  refine zk_call (rest := [.ref (ad 31), .int 6, .ref (ad 24)]) (o := 31) G hw [] (zk_Statement_init_31 hJ had hA) (cwI 0 hts (zs_gC zn2_60) rfl rfl rfl (hts _ zn2_56) (hts _ zn2_61) (hts _ zn2_62) rfl (by decide +kernel) ⟨Nat.le_trans (by decide) hR1, Nat.le_trans (by decide) hR2⟩) rfl hl.1 (Nat.le_of_ble_eq_true rfl) d_Program_init_52 ⟨Nat.le_trans (by decide) hR3, Nat.le_trans (by decide) hR4⟩ (fun H locs hw => ?_)
  refine W.widen (k := 11) (n := 129) (by decide) (by decide) ?_
  refine zk_aast (t := 7) (n := 50) (ci := 6) (x := 31) (i := 6) G hw 24 (by decide) (by decide) rfl rfl (by decide) rfl (by decide) rfl rfl (by decide) d_Program_init_55 (fun H locs hw => ?_)
  refine lv_iinc (v := 7) hx hb d_Program_init_56 hl (k := 0) rfl (by decide) (by decide) rfl (fun ls hl => ?_)
  have hl : lv_has ls 2 [(1, .int 7), (0, .ref (ad 20))] := hl
  refine lv_goto hx hb d_Program_init_59 (tgt := 37) rfl ?_
  refine lv_iload_n hx hb d_Program_init_37 rfl (lv_at hl 0 rfl) ?_
  refine lv_bipush (v := 50) hx hb d_Program_init_38 (by decide) ?_
  refine lv_icmp_ge hx hb d_Program_init_40 (tgt := 62) rfl (fun hc => absurd hc (by decide)) (fun _ => ?_)
  refine lv_aload_n hx hb d_Program_init_43 rfl (lv_at hl 1 rfl) ?_
  refine zk_get (ci := 5) G hw 20 7 (by decide) zi_5 rfl rfl rfl (by decide) zn2_54 (fun _ h => h) (q := 24) rfl rfl (by decide) d_Program_init_44 ?_
  refine lv_iload_n hx hb d_Program_init_47 rfl (lv_at hl 0 rfl) ?_
  refine zk_new (ci := 6) G hw zi_6 t_zd6 t_zd6_ok rfl rfl rfl (by decide) (zh_6 ad _) zn2_53 zn2_55 zn2_56 (Nat.le_trans (by decide) hR3) (Nat.le_trans (by decide) hR4) d_Program_init_48 (fun H hw => ?_)
  refine W.widen (k := 12) (n := 138) (by decide) (by decide) ?_
  refine lv_dup hx hb d_Program_init_51 rfl ?_
  refine zk_call (rest := [.ref (ad 32), .int 7, .ref (ad 24)]) (o := 32) G hw [] (zk_Statement_init_32 hJ had hA) (cwI 0 hts (zs_gC zn2_60) rfl rfl rfl (hts _ zn2_56) (hts _ zn2_61) (hts _ zn2_62) rfl (by decide +kernel) ⟨Nat.le_trans (by decide) hR1, Nat.le_trans (by decide) hR2⟩) rfl hl.1 (Nat.le_of_ble_eq_true rfl) d_Program_init_52 ⟨Nat.le_trans (by decide) hR3, Nat.le_trans (by decide) hR4⟩ (fun H locs hw => ?_)
  refine W.widen (k := 12) (n := 138) (by decide) (by decide) ?_
  refine zk_aast (t := 7) (n := 50) (ci := 6) (x := 32) (i := 7) G hw 24 (by decide) (by decide) rfl rfl (by decide) rfl (by decide) rfl rfl (by decide) d_Program_init_55 (fun H locs hw => ?_)
  refine lv_iinc (v := 8) hx hb d_Program_init_56 hl (k := 0) rfl (by decide) (by decide) rfl (fun ls hl => ?_)
  have hl : lv_has ls 2 [(1, .int 8), (0, .ref (ad 20))] := hl
  refine lv_goto hx hb d_Program_init_59 (tgt := 37) rfl ?_
  refine lv_iload_n hx hb d_Program_init_37 rfl (lv_at hl 0 rfl) ?_
  refine lv_bipush (v := 50) hx hb d_Program_init_38 (by decide) ?_
  refine lv_icmp_ge hx hb d_Program_init_40 (tgt := 62) rfl (fun hc => absurd hc (by decide)) (fun _ => ?_)
  refine lv_aload_n hx hb d_Program_init_43 rfl (lv_at hl 1 rfl) ?_
  refine zk_get (ci := 5) G hw 20 7 (by decide) zi_5 rfl rfl rfl (by decide) zn2_54 (fun _ h => h) (q := 24) rfl rfl (by decide) d_Program_init_44 ?_
  refine lv_iload_n hx hb d_Program_init_47 rfl (lv_at hl 0 rfl) ?_
  refine zk_new (ci := 6) G hw zi_6 t_zd6 t_zd6_ok rfl rfl rfl (by decide) (zh_6 ad _) zn2_53 zn2_55 zn2_56 (Nat.le_trans (by decide) hR3) (Nat.le_trans (by decide) hR4) d_Program_init_48 (fun H hw => ?_)
  refine W.widen (k := 13) (n := 147) (by decide) (by decide) ?_
  refine lv_dup hx hb d_Program_init_51 rfl ?_
  refine zk_call (rest := [.ref (ad 33), .int 8, .ref (ad 24)]) (o := 33) G hw [] (zk_Statement_init_33 hJ had hA) (cwI 0 hts (zs_gC zn2_60) rfl rfl rfl (hts _ zn2_56) (hts _ zn2_61) (hts _ zn2_62) rfl (by decide +kernel) ⟨Nat.le_trans (by decide) hR1, Nat.le_trans (by decide) hR2⟩) rfl hl.1 (Nat.le_of_ble_eq_true rfl) d_Program_init_52 ⟨Nat.le_trans (by decide) hR3, Nat.le_trans (by decide) hR4⟩ (fun H locs hw => ?_)
  refine W.widen (k := 13) (n := 147) (by decide) (by decide) ?_
  refine zk_aast (t := 7) (n := 50) (ci := 6) (x := 33) (i := 8) G hw 24 (by decide) (by decide) rfl rfl (by decide) rfl (by decide) rfl rfl (by decide) d_Program_init_55 (fun H locs hw => ?_)
  refine lv_iinc (v := 9) hx hb d_Program_init_56 hl (k := 0) rfl (by decide) (by decide) rfl (fun ls hl => ?_)
  have hl : lv_has ls 2 [(1, .int 9), (0, .ref (ad 20))] := hl
  refine lv_goto hx hb d_Program_init_59 (tgt := 37) rfl ?_
  refine lv_iload_n hx hb d_Program_init_37 rfl (lv_at hl 0 rfl) ?_
  refine lv_bipush (v := 50) hx hb d_Program_init_38 (by decide) ?_
  refine lv_icmp_ge hx hb d_Program_init_40 (tgt := 62) rfl (fun hc => absurd hc (by decide)) (fun _ => ?_)
  refine lv_aload_n hx hb d_Program_init_43 rfl (lv_at hl 1 rfl) ?_
  refine zk_get (ci := 5) G hw 20 7 (by decide) zi_5 rfl rfl rfl (by decide) zn2_54 (fun _ h => h) (q := 24) rfl rfl (by decide) d_Program_init_44 ?_
  refine lv_iload_n hx hb d_Program_init_47 rfl (lv_at hl 0 rfl) ?_
  refine zk_new (ci := 6) G hw zi_6 t_zd6 t_zd6_ok rfl rfl rfl (by decide) (zh_6 ad _) zn2_53 zn2_55 zn2_56 (Nat.le_trans (by decide) hR3) (Nat.le_trans (by decide) hR4) d_Program_init_48 (fun H hw => ?_)
  refine W.widen (k := 14) (n := 156) (by decide) (by decide) ?_
  refine lv_dup hx hb d_Program_init_51 rfl ?_
  refine zk_call (rest := [.ref (ad 34), .int 9, .ref (ad 24)]) (o := 34) G hw [] (zk_Statement_init_34 hJ had hA) (cwI 0 hts (zs_gC zn2_60) rfl rfl rfl (hts _ zn2_56) (hts _ zn2_61) (hts _ zn2_62) rfl (by decide +kernel) ⟨Nat.le_trans (by decide) hR1, Nat.le_trans (by decide) hR2⟩) rfl hl.1 (Nat.le_of_ble_eq_true rfl) d_Program_init_52 ⟨Nat.le_trans (by decide) hR3, Nat.le_trans (by decide) hR4⟩ (fun H locs hw => ?_)
  refine W.widen (k := 14) (n := 156) (by decide) (by decide) ?_
  refine zk_aast (t := 7) (n := 50) (ci := 6) (x := 34) (i := 9) G hw 24 (by decide) (by decide) rfl rfl (by decide) rfl (by decide) rfl rfl (by decide) d_Program_init_55 (fun H locs hw => ?_)
  refine lv_iinc (v := 10) hx hb d_Program_init_56 hl (k := 0) rfl (by decide) (by decide) rfl (fun ls hl => ?_)
  have hl : lv_has ls 2 [(1, .int 10), (0, .ref (ad 20))] := hl
  refine lv_goto hx hb d_Program_init_59 (tgt := 37) rfl ?_
  refine lv_iload_n hx hb d_Program_init_37 rfl (lv_at hl 0 rfl) ?_
  refine lv_bipush (v := 50) hx hb d_Program_init_38 (by decide) ?_
  refine lv_icmp_ge hx hb d_Program_init_40 (tgt := 62) rfl (fun hc => absurd hc (by decide)) (fun _ => ?_)
  refine lv_aload_n hx hb d_Program_init_43 rfl (lv_at hl 1 rfl) ?_
  refine zk_get (ci := 5) G hw 20 7 (by decide) zi_5 rfl rfl rfl (by decide) zn2_54 (fun _ h => h) (q := 24) rfl rfl (by decide) d_Program_init_44 ?_
  refine lv_iload_n hx hb d_Program_init_47 rfl (lv_at hl 0 rfl) ?_
  refine zk_new (ci := 6) G hw zi_6 t_zd6 t_zd6_ok rfl rfl rfl (by decide) (zh_6 ad _) zn2_53 zn2_55 zn2_56 (Nat.le_trans (by decide) hR3) (Nat.le_trans (by decide) hR4) d_Program_init_48 (fun H hw => ?_)
  refine W.widen (k := 15) (n := 165) (by decide) (by decide) ?_
  refine lv_dup hx hb d_Program_init_51 rfl ?_
  refine zk_call (rest := [.ref (ad 35), .int 10, .ref (ad 24)]) (o := 35) G hw [] (zk_Statement_init_35 hJ had hA) (cwI 0 hts (zs_gC zn2_60) rfl rfl rfl (hts _ zn2_56) (hts _ zn2_61) (hts _ zn2_62) rfl (by decide +kernel) ⟨Nat.le_trans (by decide) hR1, Nat.le_trans (by decide) hR2⟩) rfl hl.1 (Nat.le_of_ble_eq_true rfl) d_Program_init_52 ⟨Nat.le_trans (by decide) hR3, Nat.le_trans (by decide) hR4⟩ (fun H locs hw => ?_)
  refine W.widen (k := 15) (n := 165) (by decide) (by decide) ?_
  refine zk_aast (t := 7) (n := 50) (ci := 6) (x := 35) (i := 10) G hw 24 (by decide) (by decide) rfl rfl (by decide) rfl (by decide) rfl rfl (by decide) d_Program_init_55 (fun H locs hw => ?_)
  refine lv_iinc (v := 11) hx hb d_Program_init_56 hl (k := 0) rfl (by decide) (by decide) rfl (fun ls hl => ?_)
  have hl : lv_has ls 2 [(1, .int 11), (0, .ref (ad 20))] := hl
  refine lv_goto hx hb d_Program_init_59 (tgt := 37) rfl ?_
  refine lv_iload_n hx hb d_Program_init_37 rfl (lv_at hl 0 rfl) ?_
  refine lv_bipush (v := 50) hx hb d_Program_init_38 (by decide) ?_
  refine lv_icmp_ge hx hb d_Program_init_40 (tgt := 62) rfl (fun hc => absurd hc (by decide)) (fun _ => ?_)
  refine lv_aload_n hx hb d_Program_init_43 rfl (lv_at hl 1 rfl) ?_
  refine zk_get (ci := 5) G hw 20 7 (by decide) zi_5 rfl rfl rfl (by decide) zn2_54 (fun _ h => h) (q := 24) rfl rfl (by decide) d_Program_init_44 ?_
  refine lv_iload_n hx hb d_Program_init_47 rfl (lv_at hl 0 rfl) ?_
  refine zk_new (ci := 6) G hw zi_6 t_zd6 t_zd6_ok rfl rfl rfl (by decide) (zh_6 ad _) zn2_53 zn2_55 zn2_56 (Nat.le_trans (by decide) hR3) (Nat.le_trans (by decide) hR4) d_Program_init_48 (fun H hw => ?_)
  refine W.widen (k := 16) (n := 174) (by decide) (by decide) ?_
  refine lv_dup hx hb d_Program_init_51 rfl ?_
  refine zk_call (rest := [.ref (ad 36), .int 11, .ref (ad 24)]) (o := 36) G hw [] (zk_Statement_init_36 hJ had hA) (cwI 0 hts (zs_gC zn2_60) rfl rfl rfl (hts _ zn2_56) (hts _ zn2_61) (hts _ zn2_62) rfl (by decide +kernel) ⟨Nat.le_trans (by decide) hR1, Nat.le_trans (by decide) hR2⟩) rfl hl.1 (Nat.le_of_ble_eq_true rfl) d_Program_init_52 ⟨Nat.le_trans (by decide) hR3, Nat.le_trans (by decide) hR4⟩ (fun H locs hw => ?_)
  refine W.widen (k := 16) (n := 174) (by decide) (by decide) ?_
  refine zk_aast (t := 7) (n := 50) (ci := 6) (x := 36) (i := 11) G hw 24 (by decide) (by decide) rfl rfl (by decide) rfl (by decide) rfl rfl (by decide) d_Program_init_55 (fun H locs hw => ?_)
  refine lv_iinc (v := 12) hx hb d_Program_init_56 hl (k := 0) rfl (by decide) (by decide) rfl (fun ls hl => ?_)
  have hl : lv_has ls 2 [(1, .int 12), (0, .ref (ad 20))] := hl
  refine lv_goto hx hb d_Program_init_59 (tgt := 37) rfl ?_
  refine lv_iload_n hx hb d_Program_init_37 rfl (lv_at hl 0 rfl) ?_
  refine lv_bipush (v := 50) hx hb d_Program_init_38 (by decide) ?_
  refine lv_icmp_ge hx hb d_Program_init_40 (tgt := 62) rfl (fun hc => absurd hc (by decide)) (fun _ => ?_)
  refine lv_aload_n hx hb d_Program_init_43 rfl (lv_at hl 1 rfl) ?_
  refine zk_get (ci := 5) G hw 20 7 (by decide) zi_5 rfl rfl rfl (by decide) zn2_54 (fun _ h => h) (q := 24) rfl rfl (by decide) d_Program_init_44 ?_
  refine lv_iload_n hx hb d_Program_init_47 rfl (lv_at hl 0 rfl) ?_
  refine zk_new (ci := 6) G hw zi_6 t_zd6 t_zd6_ok rfl rfl rfl (by decide) (zh_6 ad _) zn2_53 zn2_55 zn2_56 (Nat.le_trans (by decide) hR3) (Nat.le_trans (by decide) hR4) d_Program_init_48 (fun H hw => ?_)
  refine W.widen (k := 17) (n := 183) (by decide) (by decide) ?_
  refine lv_dup hx hb d_Program_init_51 rfl ?_
  refine zk_call (rest := [.ref (ad 37), .int 12, .ref (ad 24)]) (o := 37) G hw [] (zk_Statement_init_37 hJ had hA) (cwI 0 hts (zs_gC zn2_60) rfl rfl rfl (hts _ zn2_56) (hts _ zn2_61) (hts _ zn2_62) rfl (by decide +kernel) ⟨Nat.le_trans (by decide) hR1, Nat.le_trans (by decide) hR2⟩) rfl hl.1 (Nat.le_of_ble_eq_true rfl) d_Program_init_52 ⟨Nat.le_trans (by decide) hR3, Nat.le_trans (by decide) hR4⟩ (fun H locs hw => ?_)
  refine W.widen (k := 17) (n := 183) (by decide) (by decide) ?_
  refine zk_aast (t := 7) (n := 50) (ci := 6) (x := 37) (i := 12) G hw 24 (by decide) (by decide) rfl rfl (by decide) rfl (by decide) rfl rfl (by decide) d_Program_init_55 (fun H locs hw => ?_)
  refine lv_iinc (v := 13) hx hb d_Program_init_56 hl (k := 0) rfl (by decide) (by decide) rfl (fun ls hl => ?_)
  have hl : lv_has ls 2 [(1, .int 13), (0, .ref (ad 20))] := hl
  refine lv_goto hx hb d_Program_init_59 (tgt := 37) rfl ?_
  refine lv_iload_n hx hb d_Program_init_37 rfl (lv_at hl 0 rfl) ?_
  refine lv_bipush (v := 50) hx hb d_Program_init_38 (by decide) ?_
  refine lv_icmp_ge hx hb d_Program_init_40 (tgt := 62) rfl (fun hc => absurd hc (by decide)) (fun _ => ?_)
  refine lv_aload_n hx hb d_Program_init_43 rfl (lv_at hl 1 rfl) ?_
  refine zk_get (ci := 5) G hw 20 7 (by decide) zi_5 rfl rfl rfl (by decide) zn2_54 (fun _ h => h) (q := 24) rfl rfl (by decide) d_Program_init_44 ?_
  refine lv_iload_n hx hb d_Program_init_47 rfl (lv_at hl 0 rfl) ?_
  refine zk_new (ci := 6) G hw zi_6 t_zd6 t_zd6_ok rfl rfl rfl (by decide) (zh_6 ad _) zn2_53 zn2_55 zn2_56 (Nat.le_trans (by decide) hR3) (Nat.le_trans (by decide) hR4) d_Program_init_48 (fun H hw => ?_)
  refine W.widen (k := 18) (n := 192) (by decide) (by decide) ?_
  refine lv_dup hx hb d_Program_init_51 rfl ?_
  refine zk_call (rest := [.ref (ad 38), .int 13, .ref (ad 24)]) (o := 38) G hw [] (zk_Statement_init_38 hJ had hA) (cwI 0 hts (zs_gC zn2_60) rfl rfl rfl (hts _ zn2_56) (hts _ zn2_61) (hts _ zn2_62) rfl (by decide +kernel) ⟨Nat.le_trans (by decide) hR1, Nat.le_trans (by decide) hR2⟩) rfl hl.1 (Nat.le_of_ble_eq_true rfl) d_Program_init_52 ⟨Nat.le_trans (by decide) hR3, Nat.le_trans (by decide) hR4⟩ (fun H locs hw => ?_)
  refine W.widen (k := 18) (n := 192) (by decide) (by decide) ?_
  refine zk_aast (t := 7) (n := 50) (ci := 6) (x := 38) (i := 13) G hw 24 (by decide) (by decide) rfl rfl (by decide) rfl (by decide) rfl rfl (by decide) d_Program_init_55 (fun H locs hw => ?_)
  refine lv_iinc (v := 14) hx hb d_Program_init_56 hl (k := 0) rfl (by decide) (by decide) rfl (fun ls hl => ?_)
  have hl : lv_has ls 2 [(1, .int 14), (0, .ref (ad 20))] := hl
  refine lv_goto hx hb d_Program_init_59 (tgt := 37) rfl ?_
  refine lv_iload_n hx hb d_Program_init_37 rfl (lv_at hl 0 rfl) ?_
  refine lv_bipush (v := 50) hx hb d_Program_init_38 (by decide) ?_
  refine lv_icmp_ge hx hb d_Program_init_40 (tgt := 62) rfl (fun hc => absurd hc (by decide)) (fun _ => ?_)
  refine lv_aload_n hx hb d_Program_init_43 rfl (lv_at hl 1 rfl) ?_
  refine zk_get (ci := 5) G hw 20 7 (by decide) zi_5 rfl rfl rfl (by decide) zn2_54 (fun _ h => h) (q := 24) rfl rfl (by decide) d_Program_init_44 ?_
  refine lv_iload_n hx hb d_Program_init_47 rfl (lv_at hl 0 rfl) ?_
  refine zk_new (ci := 6) G hw zi_6 t_zd6 t_zd6_ok rfl rfl rfl (by decide) (zh_6 ad _) zn2_53 zn2_55 zn2_56 (Nat.le_trans (by decide) hR3) (Nat.le_trans (by decide) hR4) d_Program_init_48 (fun H hw => ?_)
  refine W.widen (k := 19) (n := 201) (by decide) (by decide) ?_
  refine lv_dup hx hb d_Program_init_51 rfl ?_
  refine zk_call (rest := [.ref (ad 39), .int 14, .ref (ad 24)]) (o := 39) G hw [] (zk_Statement_init_39 hJ had hA) (cwI 0 hts (zs_gC zn2_60) rfl rfl rfl (hts _ zn2_56) (hts _ zn2_61) (hts _ zn2_62) rfl (by decide +kernel) ⟨Nat.le_trans (by decide) hR1, Nat.le_trans (by decide) hR2⟩) rfl hl.1 (Nat.le_of_ble_eq_true rfl) d_Program_init_52 ⟨Nat.le_trans (by decide) hR3, Nat.le_trans (by decide) hR4⟩ (fun H locs hw => ?_)
  refine W.widen (k := 19) (n := 201) (by decide) (by decide) ?_
  refine zk_aast (t := 7) (n := 50) (ci := 6) (x := 39) (i := 14) G hw 24 (by decide) (by decide) rfl rfl (by decide) rfl (by decide) rfl rfl (by decide) d_Program_init_55 (fun H locs hw => ?_)
  refine lv_iinc (v := 15) hx hb d_Program_init_56 hl (k := 0) rfl (by decide) (by decide) rfl (fun ls hl => ?_)
  have hl : lv_has ls 2 [(1, .int 15), (0, .ref (ad 20))] := hl
  refine lv_goto hx hb d_Program_init_59 (tgt := 37) rfl ?_
  refine lv_iload_n hx hb d_Program_init_37 rfl (lv_at hl 0 rfl) ?_
  refine lv_bipush (v := 50) hx hb d_Program_init_38 (by decide) ?_
  refine lv_icmp_ge hx hb d_Program_init_40 (tgt := 62) rfl (fun hc => absurd hc (by decide)) (fun _ => ?_)
  refine lv_aload_n hx hb d_Program_init_43 rfl (lv_at hl 1 rfl) ?_
  refine zk_get (ci := 5) G hw 20 7 (by decide) zi_5 rfl rfl rfl (by decide) zn2_54 (fun _ h => h) (q := 24) rfl rfl (by decide) d_Program_init_44 ?_
  refine lv_iload_n hx hb d_Program_init_47 rfl (lv_at hl 0 rfl) ?_
  refine zk_new (ci := 6) G hw zi_6 t_zd6 t_zd6_ok rfl rfl rfl (by decide) (zh_6 ad _) zn2_53 zn2_55 zn2_56 (Nat.le_trans (by decide) hR3) (Nat.le_trans (by decide) hR4) d_Program_init_48 (fun H hw => ?_)
  refine W.widen (k := 20) (n := 210) (by decide) (by decide) ?_
  refine lv_dup hx hb d_Program_init_51 rfl ?_
  refine zk_call (rest := [.ref (ad 40), .int 15, .ref (ad 24)]) (o := 40) G hw [] (zk_Statement_init_40 hJ had hA) (cwI 0 hts (zs_gC zn2_60) rfl rfl rfl (hts _ zn2_56) (hts _ zn2_61) (hts _ zn2_62) rfl (by decide +kernel) ⟨Nat.le_trans (by decide) hR1, Nat.le_trans (by decide) hR2⟩) rfl hl.1 (Nat.le_of_ble_eq_true rfl) d_Program_init_52 ⟨Nat.le_trans (by decide) hR3, Nat.le_trans (by decide) hR4⟩ (fun H locs hw => ?_)
  refine W.widen (k := 20) (n := 210) (by decide) (by decide) ?_
  refine zk_aast (t := 7) (n := 50) (ci := 6) (x := 40) (i := 15) G hw 24 (by decide) (by decide) rfl rfl (by decide) rfl (by decide) rfl rfl (by decide) d_Program_init_55 (fun H locs hw => ?_)
  refine lv_iinc (v := 16) hx hb d_Program_init_56 hl (k := 0) rfl (by decide) (by decide) rfl (fun ls hl => ?_)
  have hl : lv_has ls 2 [(1, .int 16), (0, .ref (ad 20))] := hl
  refine lv_goto hx hb d_Program_init_59 (tgt := 37) rfl ?_
  refine lv_iload_n hx hb d_Program_init_37 rfl (lv_at hl 0 rfl) ?_
  refine lv_bipush (v := 50) hx hb d_Program_init_38 (by decide) ?_
  refine lv_icmp_ge hx hb d_Program_init_40 (tgt := 62) rfl (fun hc => absurd hc (by decide)) (fun _ => ?_)
  refine lv_aload_n hx hb d_Program_init_43 rfl (lv_at hl 1 rfl) ?_
  refine zk_get (ci := 5) G hw 20 7 (by decide) zi_5 rfl rfl rfl (by decide) zn2_54 (fun _ h => h) (q := 24) rfl rfl (by decide) d_Program_init_44 ?_
  refine lv_iload_n hx hb d_Program_init_47 rfl (lv_at hl 0 rfl) ?_
  refine zk_new (ci := 6) G hw zi_6 t_zd6 t_zd6_ok rfl rfl rfl (by decide) (zh_6 ad _) zn2_53 zn2_55 zn2_56 (Nat.le_trans (by decide) hR3) (Nat.le_trans (by decide) hR4) d_Program_init_48 (fun H hw => ?_)
  refine W.widen (k := 21) (n := 219) (by decide) (by decide) ?_
  refine lv_dup hx hb d_Program_init_51 rfl ?_
  refine zk_call (rest := [.ref (ad 41), .int 16, .ref (ad 24)]) (o := 41) G hw [] (zk_Statement_init_41 hJ had hA) (cwI 0 hts (zs_gC zn2_60) rfl rfl rfl (hts _ zn2_56) (hts _ zn2_61) (hts _ zn2_62) rfl (by decide +kernel) ⟨Nat.le_trans (by decide) hR1, Nat.le_trans (by decide) hR2⟩) rfl hl.1 (Nat.le_of_ble_eq_true rfl) d_Program_init_52 ⟨Nat.le_trans (by decide) hR3, Nat.le_trans (by decide) hR4⟩ (fun H locs hw => ?_)
  refine W.widen (k := 21) (n := 219) (by decide) (by decide) ?_
  refine zk_aast (t := 7) (n := 50) (ci := 6) (x := 41) (i := 16) G hw 24 (by decide) (by decide) rfl rfl (by decide) rfl (by decide) rfl rfl (by decide) d_Program_init_55 (fun H locs hw => ?_)
  refine lv_iinc (v := 17) hx hb d_Program_init_56 hl (k := 0) rfl (by decide) (by decide) rfl (fun ls hl => ?_)
  have hl : lv_has ls 2 [(1, .int 17), (0, .ref (ad 20))] := hl
  refine lv_goto hx hb d_Program_init_59 (tgt := 37) rfl ?_
  refine lv_iload_n hx hb d_Program_init_37 rfl (lv_at hl 0 rfl) ?_
  refine lv_bipush (v := 50) hx hb d_Program_init_38 (by decide) ?_
  refine lv_icmp_ge hx hb d_Program_init_40 (tgt := 62) rfl (fun hc => absurd hc (by decide)) (fun _ => ?_)
  refine lv_aload_n hx hb d_Program_init_43 rfl (lv_at hl 1 rfl) ?_
  refine zk_get (ci := 5) G hw 20 7 (by decide) zi_5 rfl rfl rfl (by decide) zn2_54 (fun _ h => h) (q := 24) rfl rfl (by decide) d_Program_init_44 ?_
  refine lv_iload_n hx hb d_Program_init_47 rfl (lv_at hl 0 rfl) ?_
  refine zk_new (ci := 6) G hw zi_6 t_zd6 t_zd6_ok rfl rfl rfl (by decide) (zh_6 ad _) zn2_53 zn2_55 zn2_56 (Nat.le_trans (by decide) hR3) (Nat.le_trans (by decide) hR4) d_Program_init_48 (fun H hw => ?_)
  refine W.widen (k := 22) (n := 228) (by decide) (by decide) ?_
  refine lv_dup hx hb d_Program_init_51 rfl ?_
  refine zk_call (rest := [.ref (ad 42), .int 17, .ref (ad 24)]) (o := 42) G hw [] (zk_Statement_init_42 hJ had hA) (cwI 0 hts (zs_gC zn2_60) rfl rfl rfl (hts _ zn2_56) (hts _ zn2_61) (hts _ zn2_62) rfl (by decide +kernel) ⟨Nat.le_trans (by decide) hR1, Nat.le_trans (by decide) hR2⟩) rfl hl.1 (Nat.le_of_ble_eq_true rfl) d_Program_init_52 ⟨Nat.le_trans (by decide) hR3, Nat.le_trans (by decide) hR4⟩ (fun H locs hw => ?_)
  refine W.widen (k := 22) (n := 228) (by decide) (by decide) ?_
  refine zk_aast (t := 7) (n := 50) (ci := 6) (x := 42) (i := 17) G hw 24 (by decide) (by decide) rfl rfl (by decide) rfl (by decide) rfl rfl (by decide) d_Program_init_55 (fun H locs hw => ?_)
  refine lv_iinc (v := 18) hx hb d_Program_init_56 hl (k := 0) rfl (by decide) (by decide) rfl (fun ls hl => ?_)
  have hl : lv_has ls 2 [(1, .int 18), (0, .ref (ad 20))] := hl
  refine lv_goto hx hb d_Program_init_59 (tgt := 37) rfl ?_
  refine lv_iload_n hx hb d_Program_init_37 rfl (lv_at hl 0 rfl) ?_
  refine lv_bipush (v := 50) hx hb d_Program_init_38 (by decide) ?_
  refine lv_icmp_ge hx hb d_Program_init_40 (tgt := 62) rfl (fun hc => absurd hc (by decide)) (fun _ => ?_)
  refine lv_aload_n hx hb d_Program_init_43 rfl (lv_at hl 1 rfl) ?_
  refine zk_get (ci := 5) G hw 20 7 (by decide) zi_5 rfl rfl rfl (by decide) zn2_54 (fun _ h => h) (q := 24) rfl rfl (by decide) d_Program_init_44 ?_
  refine lv_iload_n hx hb d_Program_init_47 rfl (lv_at hl 0 rfl) ?_
  refine zk_new (ci := 6) G hw zi_6 t_zd6 t_zd6_ok rfl rfl rfl (by decide) (zh_6 ad _) zn2_53 zn2_55 zn2_56 (Nat.le_trans (by decide) hR3) (Nat.le_trans (by decide) hR4) d_Program_init_48 (fun H hw => ?_)
  refine W.widen (k := 23) (n := 237) (by decide) (by decide) ?_
  refine lv_dup hx hb d_Program_init_51 rfl ?_
  refine zk_call (rest := [.ref (ad 43), .int 18, .ref (ad 24)]) (o := 43) G hw [] (zk_Statement_init_43 hJ had hA) (cwI 0 hts (zs_gC zn2_60) rfl rfl rfl (hts _ zn2_56) (hts _ zn2_61) (hts _ zn2_62) rfl (by decide +kernel) ⟨Nat.le_trans (by decide) hR1, Nat.le_trans (by decide) hR2⟩) rfl hl.1 (Nat.le_of_ble_eq_true rfl) d_Program_init_52 ⟨Nat.le_trans (by decide) hR3, Nat.le_trans (by decide) hR4⟩ (fun H locs hw => ?_)
  refine W.widen (k := 23) (n := 237) (by decide) (by decide) ?_
  refine zk_aast (t := 7) (n := 50) (ci := 6) (x := 43) (i := 18) G hw 24 (by decide) (by decide) rfl rfl (by decide) rfl (by decide) rfl rfl (by decide) d_Program_init_55 (fun H locs hw => ?_)
  refine lv_iinc (v := 19) hx hb d_Program_init_56 hl (k := 0) rfl (by decide) (by decide) rfl (fun ls hl => ?_)
  have hl : lv_has ls 2 [(1, .int 19), (0, .ref (ad 20))] := hl
  refine lv_goto hx hb d_Program_init_59 (tgt := 37) rfl ?_
  refine lv_iload_n hx hb d_Program_init_37 rfl (lv_at hl 0 rfl) ?_
  refine lv_bipush (v := 50) hx hb d_Program_init_38 (by decide) ?_
  refine lv_icmp_ge hx hb d_Program_init_40 (tgt := 62) rfl (fun hc => absurd hc (by decide)) (fun _ => ?_)
  refine lv_aload_n hx hb d_Program_init_43 rfl (lv_at hl 1 rfl) ?_
  refine zk_get (ci := 5) G hw 20 7 (by decide) zi_5 rfl rfl rfl (by decide) zn2_54 (fun _ h => h) (q := 24) rfl rfl (by decide) d_Program_init_44 ?_
  refine lv_iload_n hx hb d_Program_init_47 rfl (lv_at hl 0 rfl) ?_
  refine zk_new (ci := 6) G hw zi_6 t_zd6 t_zd6_ok rfl rfl rfl (by decide) (zh_6 ad _) zn2_53 zn2_55 zn2_56 (Nat.le_trans (by decide) hR3) (Nat.le_trans (by decide) hR4) d_Program_init_48 (fun H hw => ?_)
  refine W.widen (k := 24) (n := 246) (by decide) (by decide) ?_
  refine lv_dup hx hb d_Program_init_51 rfl ?_
  refine zk_call (rest := [.ref (ad 44), .int 19, .ref (ad 24)]) (o := 44) G hw [] (zk_Statement_init_44 hJ had hA) (cwI 0 hts (zs_gC zn2_60) rfl rfl rfl (hts _ zn2_56) (hts _ zn2_61) (hts _ zn2_62) rfl (by decide +kernel) ⟨Nat.le_trans (by decide) hR1, Nat.le_trans (by decide) hR2⟩) rfl hl.1 (Nat.le_of_ble_eq_true rfl) d_Program_init_52 ⟨Nat.le_trans (by decide) hR3, Nat.le_trans (by decide) hR4⟩ (fun H locs hw => ?_)
  refine W.widen (k := 24) (n := 246) (by decide) (by decide) ?_
  refine zk_aast (t := 7) (n := 50) (ci := 6) (x := 44) (i := 19) G hw 24 (by decide) (by decide) rfl rfl (by decide) rfl (by decide) rfl rfl (by decide) d_Program_init_55 (fun H locs hw => ?_)
  refine lv_iinc (v := 20) hx hb d_Program_init_56 hl (k := 0) rfl (by decide) (by decide) rfl (fun ls hl => ?_)
  have hl : lv_has ls 2 [(1, .int 20), (0, .ref (ad 20))] := hl
  refine lv_goto hx hb d_Program_init_59 (tgt := 37) rfl ?_
  refine lv_iload_n hx hb d_Program_init_37 rfl (lv_at hl 0 rfl) ?_
  refine lv_bipush (v := 50) hx hb d_Program_init_38 (by decide) ?_
  refine lv_icmp_ge hx hb d_Program_init_40 (tgt := 62) rfl (fun hc => absurd hc (by decide)) (fun _ => ?_)
  refine lv_aload_n hx hb d_Program_init_43 rfl (lv_at hl 1 rfl) ?_
  refine zk_get (ci := 5) G hw 20 7 (by decide) zi_5 rfl rfl rfl (by decide) zn2_54 (fun _ h => h) (q := 24) rfl rfl (by decide) d_Program_init_44 ?_
  refine lv_iload_n hx hb d_Program_init_47 rfl (lv_at hl 0 rfl) ?_
  refine zk_new (ci := 6) G hw zi_6 t_zd6 t_zd6_ok rfl rfl rfl (by decide) (zh_6 ad _) zn2_53 zn2_55 zn2_56 (Nat.le_trans (by decide) hR3) (Nat.le_trans (by decide) hR4) d_Program_init_48 (fun H hw => ?_)
  refine W.widen (k := 25) (n := 255) (by decide) (by decide) ?_
  refine lv_dup hx hb d_Program_init_51 rfl ?_
  refine zk_call (rest := [.ref (ad 45), .int 20, .ref (ad 24)]) (o := 45) G hw [] (zk_Statement_init_45 hJ had hA) (cwI 0 hts (zs_gC zn2_60) rfl rfl rfl (hts _ zn2_56) (hts _ zn2_61) (hts _ zn2_62) rfl (by decide +kernel) ⟨Nat.le_trans (by decide) hR1, Nat.le_trans (by decide) hR2⟩) rfl hl.1 (Nat.le_of_ble_eq_true rfl) d_Program_init_52 ⟨Nat.le_trans (by decide) hR3, Nat.le_trans (by decide) hR4⟩ (fun H locs hw => ?_)
  refine W.widen (k := 25) (n := 255) (by decide) (by decide) ?_
  refine zk_aast (t := 7) (n := 50) (ci := 6) (x := 45) (i := 20) G hw 24 (by decide) (by decide) rfl rfl (by decide) rfl (by decide) rfl rfl (by decide) d_Program_init_55 (fun H locs hw => ?_)
  refine lv_iinc (v := 21) hx hb d_Program_init_56 hl (k := 0) rfl (by decide) (by decide) rfl (fun ls hl => ?_)
  have hl : lv_has ls 2 [(1, .int 21), (0, .ref (ad 20))] := hl
  refine lv_goto hx hb d_Program_init_59 (tgt := 37) rfl ?_
  refine lv_iload_n hx hb d_Program_init_37 rfl (lv_at hl 0 rfl) ?_
  refine lv_bipush (v := 50) hx hb d_Program_init_38 (by decide) ?_
  refine lv_icmp_ge hx hb d_Program_init_40 (tgt := 62) rfl (fun hc => absurd hc (by decide)) (fun _ => ?_)
  refine lv_aload_n hx hb d_Program_init_43 rfl (lv_at hl 1 rfl) ?_
  refine zk_get (ci := 5) G hw 20 7 (by decide) zi_5 rfl rfl rfl (by decide) zn2_54 (fun _ h => h) (q := 24) rfl rfl (by decide) d_Program_init_44 ?_
  refine lv_iload_n hx hb d_Program_init_47 rfl (lv_at hl 0 rfl) ?_
  refine zk_new (ci := 6) G hw zi_6 t_zd6 t_zd6_ok rfl rfl rfl (by decide) (zh_6 ad _) zn2_53 zn2_55 zn2_56 (Nat.le_trans (by decide) hR3) (Nat.le_trans (by decide) hR4) d_Program_init_48 (fun H hw => ?_)
  refine W.widen (k := 26) (n := 264) (by decide) (by decide) ?_
  refine lv_dup hx hb d_Program_init_51 rfl ?_
  refine zk_call (rest := [.ref (ad 46), .int 21, .ref (ad 24)]) (o := 46) G hw [] (zk_Statement_init_46 hJ had hA) (cwI 0 hts (zs_gC zn2_60) rfl rfl rfl (hts _ zn2_56) (hts _ zn2_61) (hts _ zn2_62) rfl (by decide +kernel) ⟨Nat.le_trans (by decide) hR1, Nat.le_trans (by decide) hR2⟩) rfl hl.1 (Nat.le_of_ble_eq_true rfl) d_Program_init_52 ⟨Nat.le_trans (by decide) hR3, Nat.le_trans (by decide) hR4⟩ (fun H locs hw => ?_)
  refine W.widen (k := 26) (n := 264) (by decide) (by decide) ?_
  refine zk_aast (t := 7) (n := 50) (ci := 6) (x := 46) (i := 21) G hw 24 (by decide) (by decide) rfl rfl (by decide) rfl (by decide) rfl rfl (by decide) d_Program_init_55 (fun H locs hw => ?_)
  refine lv_iinc (v := 22) hx hb d_Program_init_56 hl (k := 0) rfl (by decide) (by decide) rfl (fun ls hl => ?_)
  have hl : lv_has ls 2 [(1, .int 22), (0, .ref (ad 20))] := hl
  refine lv_goto hx hb d_Program_init_59 (tgt := 37) rfl ?_
  refine lv_iload_n hx hb d_Program_init_37 rfl (lv_at hl 0 rfl) ?_
  refine lv_bipush (v := 50) hx hb d_Program_init_38 (by decide) ?_
  refine lv_icmp_ge hx hb d_Program_init_40 (tgt := 62) rfl (fun hc => absurd hc (by decide)) (fun _ => ?_)
  refine lv_aload_n hx hb d_Program_init_43 rfl (lv_at hl 1 rfl) ?_
  refine zk_get (ci := 5) G hw 20 7 (by decide) zi_5 rfl rfl rfl (by decide) zn2_54 (fun _ h => h) (q := 24) rfl rfl (by decide) d_Program_init_44 ?_
  refine lv_iload_n hx hb d_Program_init_47 rfl (lv_at hl 0 rfl) ?_
  refine zk_new (ci := 6) G hw zi_6 t_zd6 t_zd6_ok rfl rfl rfl (by decide) (zh_6 ad _) zn2_53 zn2_55 zn2_56 (Nat.le_trans (by decide) hR3) (Nat.le_trans (by decide) hR4) d_Program_init_48 (fun H hw => ?_)
  refine W.widen (k := 27) (n := 273) (by decide) (by decide) ?_
  refine lv_dup hx hb d_Program_init_51 rfl ?_
  refine zk_call (rest := [.ref (ad 47), .int 22, .ref (ad 24)]) (o := 47) G hw [] (zk_Statement_init_47 hJ had hA) (cwI 0 hts (zs_gC zn2_60) rfl rfl rfl (hts _ zn2_56) (hts _ zn2_61) (hts _ zn2_62) rfl (by decide +kernel) ⟨Nat.le_trans (by decide) hR1, Nat.le_trans (by decide) hR2⟩) rfl hl.1 (Nat.le_of_ble_eq_true rfl) d_Program_init_52 ⟨Nat.le_trans (by decide) hR3, Nat.le_trans (by decide) hR4⟩ (fun H locs hw => ?_)
  refine W.widen (k := 27) (n := 273) (by decide) (by decide) ?_
  refine zk_aast (t := 7) (n := 50) (ci := 6) (x := 47) (i := 22) G hw 24 (by decide) (by decide) rfl rfl (by decide) rfl (by decide) rfl rfl (by decide) d_Program_init_55 (fun H locs hw => ?_)
  refine lv_iinc (v := 23) hx hb d_Program_init_56 hl (k := 0) rfl (by decide) (by decide) rfl (fun ls hl => ?_)
  have hl : lv_has ls 2 [(1, .int 23), (0, .ref (ad 20))] := hl
  refine lv_goto hx hb d_Program_init_59 (tgt := 37) rfl ?_
  refine lv_iload_n hx hb d_Program_init_37 rfl (lv_at hl 0 rfl) ?_
  refine lv_bipush (v := 50) hx hb d_Program_init_38 (by decide) ?_
  refine lv_icmp_ge hx hb d_Program_init_40 (tgt := 62) rfl (fun hc => absurd hc (by decide)) (fun _ => ?_)
  refine lv_aload_n hx hb d_Program_init_43 rfl (lv_at hl 1 rfl) ?_
  refine zk_get (ci := 5) G hw 20 7 (by decide) zi_5 rfl rfl rfl (by decide) zn2_54 (fun _ h => h) (q := 24) rfl rfl (by decide) d_Program_init_44 ?_
  refine lv_iload_n hx hb d_Program_init_47 rfl (lv_at hl 0 rfl) ?_
  refine zk_new (ci := 6) G hw zi_6 t_zd6 t_zd6_ok rfl rfl rfl (by decide) (zh_6 ad _) zn2_53 zn2_55 zn2_56 (Nat.le_trans (by decide) hR3) (Nat.le_trans (by decide) hR4) d_Program_init_48 (fun H hw => ?_)
  refine W.widen (k := 28) (n := 282) (by decide) (by decide) ?_
  refine lv_dup hx hb d_Program_init_51 rfl ?_
  refine zk_call (rest := [.ref (ad 48), .int 23, .ref (ad 24)]) (o := 48) G hw [] (zk_Statement_init_48 hJ had hA) (cwI 0 hts (zs_gC zn2_60) rfl rfl rfl (hts _ zn2_56) (hts _ zn2_61) (hts _ zn2_62) rfl (by decide +kernel) ⟨Nat.le_trans (by decide) hR1, Nat.le_trans (by decide) hR2⟩) rfl hl.1 (Nat.le_of_ble_eq_true rfl) d_Program_init_52 ⟨Nat.le_trans (by decide) hR3, Nat.le_trans (by decide) hR4⟩ (fun H locs hw => ?_)
  refine W.widen (k := 28) (n := 282) (by decide) (by decide) ?_
  refine zk_aast (t := 7) (n := 50) (ci := 6) (x := 48) (i := 23) G hw 24 (by decide) (by decide) rfl rfl (by decide) rfl (by decide) rfl rfl (by decide) d_Program_init_55 (fun H locs hw => ?_)
  refine lv_iinc (v := 24) hx hb d_Program_init_56 hl (k := 0) rfl (by decide) (by decide) rfl (fun ls hl => ?_)
  have hl : lv_has ls 2 [(1, .int 24), (0, .ref (ad 20))] := hl
  refine lv_goto hx hb d_Program_init_59 (tgt := 37) rfl ?_
  refine lv_iload_n hx hb d_Program_init_37 rfl (lv_at hl 0 rfl) ?_
  refine lv_bipush (v := 50) hx hb d_Program_init_38 (by decide) ?_
  refine lv_icmp_ge hx hb d_Program_init_40 (tgt := 62) rfl (fun hc => absurd hc (by decide)) (fun _ => ?_)
  refine lv_aload_n hx hb d_Program_init_43 rfl (lv_at hl 1 rfl) ?_
  refine zk_get (ci := 5) G hw 20 7 (by decide) zi_5 rfl rfl rfl (by decide) zn2_54 (fun _ h => h) (q := 24) rfl rfl (by decide) d_Program_init_44 ?_
  refine lv_iload_n hx hb d_Program_init_47 rfl (lv_at hl 0 rfl) ?_
  refine zk_new (ci := 6) G hw zi_6 t_zd6 t_zd6_ok rfl rfl rfl (by decide) (zh_6 ad _) zn2_53 zn2_55 zn2_56 (Nat.le_trans (by decide) hR3) (Nat.le_trans (by decide) hR4) d_Program_init_48 (fun H hw => ?_)
  refine W.widen (k := 29) (n := 291) (by decide) (by decide) ?_
  refine lv_dup hx hb d_Program_init_51 rfl ?_
  refine zk_call (rest := [.ref (ad 49), .int 24, .ref (ad 24)]) (o := 49) G hw [] (zk_Statement_init_49 hJ had hA) (cwI 0 hts (zs_gC zn2_60) rfl rfl rfl (hts _ zn2_56) (hts _ zn2_61) (hts _ zn2_62) rfl (by decide +kernel) ⟨Nat.le_trans (by decide) hR1, Nat.le_trans (by decide) hR2⟩) rfl hl.1 (Nat.le_of_ble_eq_true rfl) d_Program_init_52 ⟨Nat.le_trans (by decide) hR3, Nat.le_trans (by decide) hR4⟩ (fun H locs hw => ?_)
  refine W.widen (k := 29) (n := 291) (by decide) (by decide) ?_
  refine zk_aast (t := 7) (n := 50) (ci := 6) (x := 49) (i := 24) G hw 24 (by decide) (by decide) rfl rfl (by decide) rfl (by decide) rfl rfl (by decide) d_Program_init_55 (fun H locs hw => ?_)
  refine lv_iinc (v := 25) hx hb d_Program_init_56 hl (k := 0) rfl (by decide) (by decide) rfl (fun ls hl => ?_)
  have hl : lv_has ls 2 [(1, .int 25), (0, .ref (ad 20))] := hl
  refine lv_goto hx hb d_Program_init_59 (tgt := 37) rfl ?_
  refine lv_iload_n hx hb d_Program_init_37 rfl (lv_at hl 0 rfl) ?_
  refine lv_bipush (v := 50) hx hb d_Program_init_38 (by decide) ?_
  refine lv_icmp_ge hx hb d_Program_init_40 (tgt := 62) rfl (fun hc => absurd hc (by decide)) (fun _ => ?_)
  refine lv_aload_n hx hb d_Program_init_43 rfl (lv_at hl 1 rfl) ?_
  refine zk_get (ci := 5) G hw 20 7 (by decide) zi_5 rfl rfl rfl (by decide) zn2_54 (fun _ h => h) (q := 24) rfl rfl (by decide) d_Program_init_44 ?_
  refine lv_iload_n hx hb d_Program_init_47 rfl (lv_at hl 0 rfl) ?_
  refine zk_new (ci := 6) G hw zi_6 t_zd6 t_zd6_ok rfl rfl rfl (by decide) (zh_6 ad _) zn2_53 zn2_55 zn2_56 (Nat.le_trans (by decide) hR3) (Nat.le_trans (by decide) hR4) d_Program_init_48 (fun H hw => ?_)
  refine W.widen (k := 30) (n := 300) (by decide) (by decide) ?_
  refine lv_dup hx hb d_Program_init_51 rfl ?_
  refine zk_call (rest := [.ref (ad 50), .int 25, .ref (ad 24)]) (o := 50) G hw [] (zk_Statement_init_50 hJ had hA) (cwI 0 hts (zs_gC zn2_60) rfl rfl rfl (hts _ zn2_56) (hts _ zn2_61) (hts _ zn2_62) rfl (by decide +kernel) ⟨Nat.le_trans (by decide) hR1, Nat.le_trans (by decide) hR2⟩) rfl hl.1 (Nat.le_of_ble_eq_true rfl) d_Program_init_52 ⟨Nat.le_trans (by decide) hR3, Nat.le_trans (by decide) hR4⟩ (fun H locs hw => ?_)
  refine W.widen (k := 30) (n := 300) (by decide) (by decide) ?_
  refine zk_aast (t := 7) (n := 50) (ci := 6) (x := 50) (i := 25) G hw 24 (by decide) (by decide) rfl rfl (by decide) rfl (by decide) rfl rfl (by decide) d_Program_init_55 (fun H locs hw => ?_)
  refine lv_iinc (v := 26) hx hb d_Program_init_56 hl (k := 0) rfl (by decide) (by decide) rfl (fun ls hl => ?_)
  have hl : lv_has ls 2 [(1, .int 26), (0, .ref (ad 20))] := hl
  refine lv_goto hx hb d_Program_init_59 (tgt := 37) rfl ?_
  refine lv_iload_n hx hb d_Program_init_37 rfl (lv_at hl 0 rfl) ?_
  refine lv_bipush (v := 50) hx hb d_Program_init_38 (by decide) ?_
  refine lv_icmp_ge hx hb d_Program_init_40 (tgt := 62) rfl (fun hc => absurd hc (by decide)) (fun _ => ?_)
  refine lv_aload_n hx hb d_Program_init_43 rfl (lv_at hl 1 rfl) ?_
  refine zk_get (ci := 5) G hw 20 7 (by decide) zi_5 rfl rfl rfl (by decide) zn2_54 (fun _ h => h) (q := 24) rfl rfl (by decide) d_Program_init_44 ?_
  refine lv_iload_n hx hb d_Program_init_47 rfl (lv_at hl 0 rfl) ?_
  refine zk_new (ci := 6) G hw zi_6 t_zd6 t_zd6_ok rfl rfl rfl (by decide) (zh_6 ad _) zn2_53 zn2_55 zn2_56 (Nat.le_trans (by decide) hR3) (Nat.le_trans (by decide) hR4) d_Program_init_48 (fun H hw => ?_)
  refine W.widen (k := 31) (n := 309) (by decide) (by decide) ?_
  refine lv_dup hx hb d_Program_init_51 rfl ?_
  refine zk_call (rest := [.ref (ad 51), .int 26, .ref (ad 24)]) (o := 51) G hw [] (zk_Statement_init_51 hJ had hA) (cwI 0 hts (zs_gC zn2_60) rfl rfl rfl (hts _ zn2_56) (hts _ zn2_61) (hts _ zn2_62) rfl (by decide +kernel) ⟨Nat.le_trans (by decide) hR1, Nat.le_trans (by decide) hR2⟩) rfl hl.1 (Nat.le_of_ble_eq_true rfl) d_Program_init_52 ⟨Nat.le_trans (by decide) hR3, Nat.le_trans (by decide) hR4⟩ (fun H locs hw => ?_)
  refine W.widen (k := 31) (n := 309) (by decide) (by decide) ?_
  refine zk_aast (t := 7) (n := 50) (ci := 6) (x := 51) (i := 26) G hw 24 (by decide) (by decide) rfl rfl (by decide) rfl (by decide) rfl rfl (by decide) d_Program_init_55 (fun H locs hw => ?_)
  refine lv_iinc (v := 27) hx hb d_Program_init_56 hl (k := 0) rfl (by decide) (by decide) rfl (fun ls hl => ?_)
  have hl : lv_has ls 2 [(1, .int 27), (0, .ref (ad 20))] := hl
  refine lv_goto hx hb d_Program_init_59 (tgt := 37) rfl ?_
  refine lv_iload_n hx hb d_Program_init_37 rfl (lv_at hl 0 rfl) ?_
  refine lv_bipush (v := 50) hx hb d_Program_init_38 (by decide) ?_
  refine lv_icmp_ge hx hb d_Program_init_40 (tgt := 62) rfl (fun hc => absurd hc (by decide)) (fun _ => ?_)
  refine lv_aload_n hx hb d_Program_init_43 rfl (lv_at hl 1 rfl) ?_
  refine zk_get (ci := 5) G hw 20 7 (by decide) zi_5 rfl rfl rfl (by decide) zn2_54 (fun _ h => h) (q := 24) rfl rfl (by decide) d_Program_init_44 ?_
  refine lv_iload_n hx hb d_Program_init_47 rfl (lv_at hl 0 rfl) ?_
  refine zk_new (ci := 6) G hw zi_6 t_zd6 t_zd6_ok rfl rfl rfl (by decide) (zh_6 ad _) zn2_53 zn2_55 zn2_56 (Nat.le_trans (by decide) hR3) (Nat.le_trans (by decide) hR4) d_Program_init_48 (fun H hw => ?_)
  refine W.widen (k := 32) (n := 318) (by decide) (by decide) ?_
  refine lv_dup hx hb d_Program_init_51 rfl ?_
  refine zk_call (rest := [.ref (ad 52), .int 27, .ref (ad 24)]) (o := 52) G hw [] (zk_Statement_init_52 hJ had hA) (cwI 0 hts (zs_gC zn2_60) rfl rfl rfl (hts _ zn2_56) (hts _ zn2_61) (hts _ zn2_62) rfl (by decide +kernel) ⟨Nat.le_trans (by decide) hR1, Nat.le_trans (by decide) hR2⟩) rfl hl.1 (Nat.le_of_ble_eq_true rfl) d_Program_init_52 ⟨Nat.le_trans (by decide) hR3, Nat.le_trans (by decide) hR4⟩ (fun H locs hw => ?_)
  refine W.widen (k := 32) (n := 318) (by decide) (by decide) ?_
  refine zk_aast (t := 7) (n := 50) (ci := 6) (x := 52) (i := 27) G hw 24 (by decide) (by decide) rfl rfl (by decide) rfl (by decide) rfl rfl (by decide) d_Program_init_55 (fun H locs hw => ?_)
  refine lv_iinc (v := 28) hx hb d_Program_init_56 hl (k := 0) rfl (by decide) (by decide) rfl (fun ls hl => ?_)
  have hl : lv_has ls 2 [(1, .int 28), (0, .ref (ad 20))] := hl
  refine lv_goto hx hb d_Program_init_59 (tgt := 37) rfl ?_
  refine lv_iload_n hx hb d_Program_init_37 rfl (lv_at hl 0 rfl) ?_
  refine lv_bipush (v := 50) hx hb d_Program_init_38 (by decide) ?_
  refine lv_icmp_ge hx hb d_Program_init_40 (tgt := 62) rfl (fun hc => absurd hc (by decide)) (fun _ => ?_)
  refine lv_aload_n hx hb d_Program_init_43 rfl (lv_at hl 1 rfl) ?_
  refine zk_get (ci := 5) G hw 20 7 (by decide) zi_5 rfl rfl rfl (by decide) zn2_54 (fun _ h => h) (q := 24) rfl rfl (by decide) d_Program_init_44 ?_
  refine lv_iload_n hx hb d_Program_init_47 rfl (lv_at hl 0 rfl) ?_
  refine zk_new (ci := 6) G hw zi_6 t_zd6 t_zd6_ok rfl rfl rfl (by decide) (zh_6 ad _) zn2_53 zn2_55 zn2_56 (Nat.le_trans (by decide) hR3) (Nat.le_trans (by decide) hR4) d_Program_init_48 (fun H hw => ?_)
  refine W.widen (k := 33) (n := 327) (by decide) (by decide) ?_
  refine lv_dup hx hb d_Program_init_51 rfl ?_
  refine zk_call (rest := [.ref (ad 53), .int 28, .ref (ad 24)]) (o := 53) G hw [] (zk_Statement_init_53 hJ had hA) (cwI 0 hts (zs_gC zn2_60) rfl rfl rfl (hts _ zn2_56) (hts _ zn2_61) (hts _ zn2_62) rfl (by decide +kernel) ⟨Nat.le_trans (by decide) hR1, Nat.le_trans (by decide) hR2⟩) rfl hl.1 (Nat.le_of_ble_eq_true rfl) d_Program_init_52 ⟨Nat.le_trans (by decide) hR3, Nat.le_trans (by decide) hR4⟩ (fun H locs hw => ?_)
  refine W.widen (k := 33) (n := 327) (by decide) (by decide) ?_
  refine zk_aast (t := 7) (n := 50) (ci := 6) (x := 53) (i := 28) G hw 24 (by decide) (by decide) rfl rfl (by decide) rfl (by decide) rfl rfl (by decide) d_Program_init_55 (fun H locs hw => ?_)
  refine lv_iinc (v := 29) hx hb d_Program_init_56 hl (k := 0) rfl (by decide) (by decide) rfl (fun ls hl => ?_)
  have hl : lv_has ls 2 [(1, .int 29), (0, .ref (ad 20))] := hl
  refine lv_goto hx hb d_Program_init_59 (tgt := 37) rfl ?_
  refine lv_iload_n hx hb d_Program_init_37 rfl (lv_at hl 0 rfl) ?_
  refine lv_bipush (v := 50) hx hb d_Program_init_38 (by decide) ?_
  refine lv_icmp_ge hx hb d_Program_init_40 (tgt := 62) rfl (fun hc => absurd hc (by decide)) (fun _ => ?_)
  refine lv_aload_n hx hb d_Program_init_43 rfl (lv_at hl 1 rfl) ?_
  refine zk_get (ci := 5) G hw 20 7 (by decide) zi_5 rfl rfl rfl (by decide) zn2_54 (fun _ h => h) (q := 24) rfl rfl (by decide) d_Program_init_44 ?_
  refine lv_iload_n hx hb d_Program_init_47 rfl (lv_at hl 0 rfl) ?_
  refine zk_new (ci := 6) G hw zi_6 t_zd6 t_zd6_ok rfl rfl rfl (by decide) (zh_6 ad _) zn2_53 zn2_55 zn2_56 (Nat.le_trans (by decide) hR3) (Nat.le_trans (by decide) hR4) d_Program_init_48 (fun H hw => ?_)
  refine W.widen (k := 34) (n := 336) (by decide) (by decide) ?_
  refine lv_dup hx hb d_Program_init_51 rfl ?_
  refine zk_call (rest := [.ref (ad 54), .int 29, .ref (ad 24)]) (o := 54) G hw [] (zk_Statement_init_54 hJ had hA) (cwI 0 hts (zs_gC zn2_60) rfl rfl rfl (hts _ zn2_56) (hts _ zn2_61) (hts _ zn2_62) rfl (by decide +kernel) ⟨Nat.le_trans (by decide) hR1, Nat.le_trans (by decide) hR2⟩) rfl hl.1 (Nat.le_of_ble_eq_true rfl) d_Program_init_52 ⟨Nat.le_trans (by decide) hR3, Nat.le_trans (by decide) hR4⟩ (fun H locs hw => ?_)
  refine W.widen (k := 34) (n := 336) (by decide) (by decide) ?_
  refine zk_aast (t := 7) (n := 50) (ci := 6) (x := 54) (i := 29) G hw 24 (by decide) (by decide) rfl rfl (by decide) rfl (by decide) rfl rfl (by decide) d_Program_init_55 (fun H locs hw => ?_)
  refine lv_iinc (v := 30) hx hb d_Program_init_56 hl (k := 0) rfl (by decide) (by decide) rfl (fun ls hl => ?_)
  have hl : lv_has ls 2 [(1, .int 30), (0, .ref (ad 20))] := hl
  refine lv_goto hx hb d_Program_init_59 (tgt := 37) rfl ?_
  refine lv_iload_n hx hb d_Program_init_37 rfl (lv_at hl 0 rfl) ?_
  refine lv_bipush (v := 50) hx hb d_Program_init_38 (by decide) ?_
  refine lv_icmp_ge hx hb d_Program_init_40 (tgt := 62) rfl (fun hc => absurd hc (by decide)) (fun _ => ?_)
  refine lv_aload_n hx hb d_Program_init_43 rfl (lv_at hl 1 rfl) ?_
  refine zk_get (ci := 5) G hw 20 7 (by decide) zi_5 rfl rfl rfl (by decide) zn2_54 (fun _ h => h) (q := 24) rfl rfl (by decide) d_Program_init_44 ?_
  refine lv_iload_n hx hb d_Program_init_47 rfl (lv_at hl 0 rfl) ?_
  refine zk_new (ci := 6) G hw zi_6 t_zd6 t_zd6_ok rfl rfl rfl (by decide) (zh_6 ad _) zn2_53 zn2_55 zn2_56 (Nat.le_trans (by decide) hR3) (Nat.le_trans (by decide) hR4) d_Program_init_48 (fun H hw => ?_)
  refine W.widen (k := 35) (n := 345) (by decide) (by decide) ?_
  refine lv_dup hx hb d_Program_init_51 rfl ?_
  refine zk_call (rest := [.ref (ad 55), .int 30, .ref (ad 24)]) (o := 55) G hw [] (zk_Statement_init_55 hJ had hA) (cwI 0 hts (zs_gC zn2_60) rfl rfl rfl (hts _ zn2_56) (hts _ zn2_61) (hts _ zn2_62) rfl (by decide +kernel) ⟨Nat.le_trans (by decide) hR1, Nat.le_trans (by decide) hR2⟩) rfl hl.1 (Nat.le_of_ble_eq_true rfl) d_Program_init_52 ⟨Nat.le_trans (by decide) hR3, Nat.le_trans (by decide) hR4⟩ (fun H locs hw => ?_)
  refine W.widen (k := 35) (n := 345) (by decide) (by decide) ?_
  refine zk_aast (t := 7) (n := 50) (ci := 6) (x := 55) (i := 30) G hw 24 (by decide) (by decide) rfl rfl (by decide) rfl (by decide) rfl rfl (by decide) d_Program_init_55 (fun H locs hw => ?_)
  refine lv_iinc (v := 31) hx hb d_Program_init_56 hl (k := 0) rfl (by decide) (by decide) rfl (fun ls hl => ?_)
  have hl : lv_has ls 2 [(1, .int 31), (0, .ref (ad 20))] := hl
  refine lv_goto hx hb d_Program_init_59 (tgt := 37) rfl ?_
  refine lv_iload_n hx hb d_Program_init_37 rfl (lv_at hl 0 rfl) ?_
  refine lv_bipush (v := 50) hx hb d_Program_init_38 (by decide) ?_
  refine lv_icmp_ge hx hb d_Program_init_40 (tgt := 62) rfl (fun hc => absurd hc (by decide)) (fun _ => ?_)
  refine lv_aload_n hx hb d_Program_init_43 rfl (lv_at hl 1 rfl) ?_
  refine zk_get (ci := 5) G hw 20 7 (by decide) zi_5 rfl rfl rfl (by decide) zn2_54 (fun _ h => h) (q := 24) rfl rfl (by decide) d_Program_init_44 ?_
  refine lv_iload_n hx hb d_Program_init_47 rfl (lv_at hl 0 rfl) ?_
  refine zk_new (ci := 6) G hw zi_6 t_zd6 t_zd6_ok rfl rfl rfl (by decide) (zh_6 ad _) zn2_53 zn2_55 zn2_56 (Nat.le_trans (by decide) hR3) (Nat.le_trans (by decide) hR4) d_Program_init_48 (fun H hw => ?_)
  refine W.widen (k := 36) (n := 354) (by decide) (by decide) ?_
  refine lv_dup hx hb d_Program_init_51 rfl ?_
  refine zk_call (rest := [.ref (ad 56), .int 31, .ref (ad 24)]) (o := 56) G hw [] (zk_Statement_init_56 hJ had hA) (cwI 0 hts (zs_gC zn2_60) rfl rfl rfl (hts _ zn2_56) (hts _ zn2_61) (hts _ zn2_62) rfl (by decide +kernel) ⟨Nat.le_trans (by decide) hR1, Nat.le_trans (by decide) hR2⟩) rfl hl.1 (Nat.le_of_ble_eq_true rfl) d_Program_init_52 ⟨Nat.le_trans (by decide) hR3, Nat.le_trans (by decide) hR4⟩ (fun H locs hw => ?_)
  refine W.widen (k := 36) (n := 354) (by decide) (by decide) ?_
  refine zk_aast (t := 7) (n := 50) (ci := 6) (x := 56) (i := 31) G hw 24 (by decide) (by decide) rfl rfl (by decide) rfl (by decide) rfl rfl (by decide) d_Program_init_55 (fun H locs hw => ?_)
  refine lv_iinc (v := 32) hx hb d_Program_init_56 hl (k := 0) rfl (by decide) (by decide) rfl (fun ls hl => ?_)
  have hl : lv_has ls 2 [(1, .int 32), (0, .ref (ad 20))] := hl
  refine lv_goto hx hb d_Program_init_59 (tgt := 37) rfl ?_
  refine lv_iload_n hx hb d_Program_init_37 rfl (lv_at hl 0 rfl) ?_
  refine lv_bipush (v := 50) hx hb d_Program_init_38 (by decide) ?_
  refine lv_icmp_ge hx hb d_Program_init_40 (tgt := 62) rfl (fun hc => absurd hc (by decide)) (fun _ => ?_)
  refine lv_aload_n hx hb d_Program_init_43 rfl (lv_at hl 1 rfl) ?_
  refine zk_get (ci := 5) G hw 20 7 (by decide) zi_5 rfl rfl rfl (by decide) zn2_54 (fun _ h => h) (q := 24) rfl rfl (by decide) d_Program_init_44 ?_
  refine lv_iload_n hx hb d_Program_init_47 rfl (lv_at hl 0 rfl) ?_
  refine zk_new (ci := 6) G hw zi_6 t_zd6 t_zd6_ok rfl rfl rfl (by decide) (zh_6 ad _) zn2_53 zn2_55 zn2_56 (Nat.le_trans (by decide) hR3) (Nat.le_trans (by decide) hR4) d_Program_init_48 (fun H hw => ?_)
  refine W.widen (k := 37) (n := 363) (by decide) (by decide) ?_
  refine lv_dup hx hb d_Program_init_51 rfl ?_
  refine zk_call (rest := [.ref (ad 57), .int 32, .ref (ad 24)]) (o := 57) G hw [] (zk_Statement_init_57 hJ had hA) (cwI 0 hts (zs_gC zn2_60) rfl rfl rfl (hts _ zn2_56) (hts _ zn2_61) (hts _ zn2_62) rfl (by decide +kernel) ⟨Nat.le_trans (by decide) hR1, Nat.le_trans (by decide) hR2⟩) rfl hl.1 (Nat.le_of_ble_eq_true rfl) d_Program_init_52 ⟨Nat.le_trans (by decide) hR3, Nat.le_trans (by decide) hR4⟩ (fun H locs hw => ?_)
  refine W.widen (k := 37) (n := 363) (by decide) (by decide) ?_
  refine zk_aast (t := 7) (n := 50) (ci := 6) (x := 57) (i := 32) G hw 24 (by decide) (by decide) rfl rfl (by decide) rfl (by decide) rfl rfl (by decide) d_Program_init_55 (fun H locs hw => ?_)
  refine lv_iinc (v := 33) hx hb d_Program_init_56 hl (k := 0) rfl (by decide) (by decide) rfl (fun ls hl => ?_)
  have hl : lv_has ls 2 [(1, .int 33), (0, .ref (ad 20))] := hl
  refine lv_goto hx hb d_Program_init_59 (tgt := 37) rfl ?_
  refine lv_iload_n hx hb d_Program_init_37 rfl (lv_at hl 0 rfl) ?_
  refine lv_bipush (v := 50) hx hb d_Program_init_38 (by decide) ?_
  refine lv_icmp_ge hx hb d_Program_init_40 (tgt := 62) rfl (fun hc => absurd hc (by decide)) (fun _ => ?_)
  refine lv_aload_n hx hb d_Program_init_43 rfl (lv_at hl 1 rfl) ?_
  refine zk_get (ci := 5) G hw 20 7 (by decide) zi_5 rfl rfl rfl (by decide) zn2_54 (fun _ h => h) (q := 24) rfl rfl (by decide) d_Program_init_44 ?_
  refine lv_iload_n hx hb d_Program_init_47 rfl (lv_at hl 0 rfl) ?_
  refine zk_new (ci := 6) G hw zi_6 t_zd6 t_zd6_ok rfl rfl rfl (by decide) (zh_6 ad _) zn2_53 zn2_55 zn2_56 (Nat.le_trans (by decide) hR3) (Nat.le_trans (by decide) hR4) d_Program_init_48 (fun H hw => ?_)
  refine W.widen (k := 38) (n := 372) (by decide) (by decide) ?_
  refine lv_dup hx hb d_Program_init_51 rfl ?_
  refine zk_call (rest := [.ref (ad 58), .int 33, .ref (ad 24)]) (o := 58) G hw [] (zk_Statement_init_58 hJ had hA) (cwI 0 hts (zs_gC zn2_60) rfl rfl rfl (hts _ zn2_56) (hts _ zn2_61) (hts _ zn2_62) rfl (by decide +kernel) ⟨Nat.le_trans (by decide) hR1, Nat.le_trans (by decide) hR2⟩) rfl hl.1 (Nat.le_of_ble_eq_true rfl) d_Program_init_52 ⟨Nat.le_trans (by decide) hR3, Nat.le_trans (by decide) hR4⟩ (fun H locs hw => ?_)
  refine W.widen (k := 38) (n := 372) (by decide) (by decide) ?_
  refine zk_aast (t := 7) (n := 50) (ci := 6) (x := 58) (i := 33) G hw 24 (by decide) (by decide) rfl rfl (by decide) rfl (by decide) rfl rfl (by decide) d_Program_init_55 (fun H locs hw => ?_)
  refine lv_iinc (v := 34) hx hb d_Program_init_56 hl (k := 0) rfl (by decide) (by decide) rfl (fun ls hl => ?_)
  have hl : lv_has ls 2 [(1, .int 34), (0, .ref (ad 20))] := hl
  refine lv_goto hx hb d_Program_init_59 (tgt := 37) rfl ?_
  refine lv_iload_n hx hb d_Program_init_37 rfl (lv_at hl 0 rfl) ?_
  refine lv_bipush (v := 50) hx hb d_Program_init_38 (by decide) ?_
  refine lv_icmp_ge hx hb d_Program_init_40 (tgt := 62) rfl (fun hc => absurd hc (by decide)) (fun _ => ?_)
  refine lv_aload_n hx hb d_Program_init_43 rfl (lv_at hl 1 rfl) ?_
  refine zk_get (ci := 5) G hw 20 7 (by decide) zi_5 rfl rfl rfl (by decide) zn2_54 (fun _ h => h) (q := 24) rfl rfl (by decide) d_Program_init_44 ?_
  refine lv_iload_n hx hb d_Program_init_47 rfl (lv_at hl 0 rfl) ?_
  refine zk_new (ci := 6) G hw zi_6 t_zd6 t_zd6_ok rfl rfl rfl (by decide) (zh_6 ad _) zn2_53 zn2_55 zn2_56 (Nat.le_trans (by decide) hR3) (Nat.le_trans (by decide) hR4) d_Program_init_48 (fun H hw => ?_)
  refine W.widen (k := 39) (n := 381) (by decide) (by decide) ?_
  refine lv_dup hx hb d_Program_init_51 rfl ?_
  refine zk_call (rest := [.ref (ad 59), .int 34, .ref (ad 24)]) (o := 59) G hw [] (zk_Statement_init_59 hJ had hA) (cwI 0 hts (zs_gC zn2_60) rfl rfl rfl (hts _ zn2_56) (hts _ zn2_61) (hts _ zn2_62) rfl (by decide +kernel) ⟨Nat.le_trans (by decide) hR1, Nat.le_trans (by decide) hR2⟩) rfl hl.1 (Nat.le_of_ble_eq_true rfl) d_Program_init_52 ⟨Nat.le_trans (by decide) hR3, Nat.le_trans (by decide) hR4⟩ (fun H locs hw => ?_)
  refine W.widen (k := 39) (n := 381) (by decide) (by decide) ?_
  refine zk_aast (t := 7) (n := 50) (ci := 6) (x := 59) (i := 34) G hw 24 (by decide) (by decide) rfl rfl (by decide) rfl (by decide) rfl rfl (by decide) d_Program_init_55 (fun H locs hw => ?_)
  refine lv_iinc (v := 35) hx hb d_Program_init_56 hl (k := 0) rfl (by decide) (by decide) rfl (fun ls hl => ?_)
  have hl : lv_has ls 2 [(1, .int 35), (0, .ref (ad 20))] := hl
  refine lv_goto hx hb d_Program_init_59 (tgt := 37) rfl ?_
  refine lv_iload_n hx hb d_Program_init_37 rfl (lv_at hl 0 rfl) ?_
  refine lv_bipush (v := 50) hx hb d_Program_init_38 (by decide) ?_
  refine lv_icmp_ge hx hb d_Program_init_40 (tgt := 62) rfl (fun hc => absurd hc (by decide)) (fun _ => ?_)
  refine lv_aload_n hx hb d_Program_init_43 rfl (lv_at hl 1 rfl) ?_
  refine zk_get (ci := 5) G hw 20 7 (by decide) zi_5 rfl rfl rfl (by decide) zn2_54 (fun _ h => h) (q := 24) rfl rfl (by decide) d_Program_init_44 ?_
  refine lv_iload_n hx hb d_Program_init_47 rfl (lv_at hl 0 rfl) ?_
  refine zk_new (ci := 6) G hw zi_6 t_zd6 t_zd6_ok rfl rfl rfl (by decide) (zh_6 ad _) zn2_53 zn2_55 zn2_56 (Nat.le_trans (by decide) hR3) (Nat.le_trans (by decide) hR4) d_Program_init_48 (fun H hw => ?_)
  refine W.widen (k := 40) (n := 390) (by decide) (by decide) ?_
  refine lv_dup hx hb d_Program_init_51 rfl ?_
  refine zk_call (rest := [.ref (ad 60), .int 35, .ref (ad 24)]) (o := 60) G hw [] (zk_Statement_init_60 hJ had hA) (cwI 0 hts (zs_gC zn2_60) rfl rfl rfl (hts _ zn2_56) (hts _ zn2_61) (hts _ zn2_62) rfl (by decide +kernel) ⟨Nat.le_trans (by decide) hR1, Nat.le_trans (by decide) hR2⟩) rfl hl.1 (Nat.le_of_ble_eq_true rfl) d_Program_init_52 ⟨Nat.le_trans (by decide) hR3, Nat.le_trans (by decide) hR4⟩ (fun H locs hw => ?_)
  refine W.widen (k := 40) (n := 390) (by decide) (by decide) ?_
  refine zk_aast (t := 7) (n := 50) (ci := 6) (x := 60) (i := 35) G hw 24 (by decide) (by decide) rfl rfl (by decide) rfl (by decide) rfl rfl (by decide) d_Program_init_55 (fun H locs hw => ?_)
  refine lv_iinc (v := 36) hx hb d_Program_init_56 hl (k := 0) rfl (by decide) (by decide) rfl (fun ls hl => ?_)
  have hl : lv_has ls 2 [(1, .int 36), (0, .ref (ad 20))] := hl
  refine lv_goto hx hb d_Program_init_59 (tgt := 37) rfl ?_
  refine lv_iload_n hx hb d_Program_init_37 rfl (lv_at hl 0 rfl) ?_
  refine lv_bipush (v := 50) hx hb d_Program_init_38 (by decide) ?_
  refine lv_icmp_ge hx hb d_Program_init_40 (tgt := 62) rfl (fun hc => absurd hc (by decide)) (fun _ => ?_)
  refine lv_aload_n hx hb d_Program_init_43 rfl (lv_at hl 1 rfl) ?_
  refine zk_get (ci := 5) G hw 20 7 (by decide) zi_5 rfl rfl rfl (by decide) zn2_54 (fun _ h => h) (q := 24) rfl rfl (by decide) d_Program_init_44 ?_
  refine lv_iload_n hx hb d_Program_init_47 rfl (lv_at hl 0 rfl) ?_
  refine zk_new (ci := 6) G hw zi_6 t_zd6 t_zd6_ok rfl rfl rfl (by decide) (zh_6 ad _) zn2_53 zn2_55 zn2_56 (Nat.le_trans (by decide) hR3) (Nat.le_trans (by decide) hR4) d_Program_init_48 (fun H hw => ?_)
  refine W.widen (k := 41) (n := 399) (by decide) (by decide) ?_
  refine lv_dup hx hb d_Program_init_51 rfl ?_
  refine zk_call (rest := [.ref (ad 61), .int 36, .ref (ad 24)]) (o := 61) G hw [] (zk_Statement_init_61 hJ had hA) (cwI 0 hts (zs_gC zn2_60) rfl rfl rfl (hts _ zn2_56) (hts _ zn2_61) (hts _ zn2_62) rfl (by decide +kernel) ⟨Nat.le_trans (by decide) hR1, Nat.le_trans (by decide) hR2⟩) rfl hl.1 (Nat.le_of_ble_eq_true rfl) d_Program_init_52 ⟨Nat.le_trans (by decide) hR3, Nat.le_trans (by decide) hR4⟩ (fun H locs hw => ?_)
  refine W.widen (k := 41) (n := 399) (by decide) (by decide) ?_
  refine zk_aast (t := 7) (n := 50) (ci := 6) (x := 61) (i := 36) G hw 24 (by decide) (by decide) rfl rfl (by decide) rfl (by decide) rfl rfl (by decide) d_Program_init_55 (fun H locs hw => ?_)
  refine lv_iinc (v := 37) hx hb d_Program_init_56 hl (k := 0) rfl (by decide) (by decide) rfl (fun ls hl => ?_)
  have hl : lv_has ls 2 [(1, .int 37), (0, .ref (ad 20))] := hl
  refine lv_goto hx hb d_Program_init_59 (tgt := 37) rfl ?_
  refine lv_iload_n hx hb d_Program_init_37 rfl (lv_at hl 0 rfl) ?_
  refine lv_bipush (v := 50) hx hb d_Program_init_38 (by decide) ?_
  refine lv_icmp_ge hx hb d_Program_init_40 (tgt := 62) rfl (fun hc => absurd hc (by decide)) (fun _ => ?_)
  refine lv_aload_n hx hb d_Program_init_43 rfl (lv_at hl 1 rfl) ?_
  refine zk_get (ci := 5) G hw 20 7 (by decide) zi_5 rfl rfl rfl (by decide) zn2_54 (fun _ h => h) (q := 24) rfl rfl (by decide) d_Program_init_44 ?_
  refine lv_iload_n hx hb d_Program_init_47 rfl (lv_at hl 0 rfl) ?_
  refine zk_new (ci := 6) G hw zi_6 t_zd6 t_zd6_ok rfl rfl rfl (by decide) (zh_6 ad _) zn2_53 zn2_55 zn2_56 (Nat.le_trans (by decide) hR3) (Nat.le_trans (by decide) hR4) d_Program_init_48 (fun H hw => ?_)
  refine W.widen (k := 42) (n := 408) (by decide) (by decide) ?_
  refine lv_dup hx hb d_Program_init_51 rfl ?_
  refine zk_call (rest := [.ref (ad 62), .int 37, .ref (ad 24)]) (o := 62) G hw [] (zk_Statement_init_62 hJ had hA) (cwI 0 hts (zs_gC zn2_60) rfl rfl rfl (hts _ zn2_56) (hts _ zn2_61) (hts _ zn2_62) rfl (by decide +kernel) ⟨Nat.le_trans (by decide) hR1, Nat.le_trans (by decide) hR2⟩) rfl hl.1 (Nat.le_of_ble_eq_true rfl) d_Program_init_52 ⟨Nat.le_trans (by decide) hR3, Nat.le_trans (by decide) hR4⟩ (fun H locs hw => ?_)
  refine W.widen (k := 42) (n := 408) (by decide) (by decide) ?_
  refine zk_aast (t := 7) (n := 50) (ci := 6) (x := 62) (i := 37) G hw 24 (by decide) (by decide) rfl rfl (by decide) rfl (by decide) rfl rfl (by decide) d_Program_init_55 (fun H locs hw => ?_)
  refine lv_iinc (v := 38) hx hb d_Program_init_56 hl (k := 0) rfl (by decide) (by decide) rfl (fun ls hl => ?_)
  have hl : lv_has ls 2 [(1, .int 38), (0, .ref (ad 20))] := hl
  refine lv_goto hx hb d_Program_init_59 (tgt := 37) rfl ?_
  refine lv_iload_n hx hb d_Program_init_37 rfl (lv_at hl 0 rfl) ?_
  refine lv_bipush (v := 50) hx hb d_Program_init_38 (by decide) ?_
  refine lv_icmp_ge hx hb d_Program_init_40 (tgt := 62) rfl (fun hc => absurd hc (by decide)) (fun _ => ?_)
  refine lv_aload_n hx hb d_Program_init_43 rfl (lv_at hl 1 rfl) ?_
  refine zk_get (ci := 5) G hw 20 7 (by decide) zi_5 rfl rfl rfl (by decide) zn2_54 (fun _ h => h) (q := 24) rfl rfl (by decide) d_Program_init_44 ?_
  refine lv_iload_n hx hb d_Program_init_47 rfl (lv_at hl 0 rfl) ?_
  refine zk_new (ci := 6) G hw zi_6 t_zd6 t_zd6_ok rfl rfl rfl (by decide) (zh_6 ad _) zn2_53 zn2_55 zn2_56 (Nat.le_trans (by decide) hR3) (Nat.le_trans (by decide) hR4) d_Program_init_48 (fun H hw => ?_)
  refine W.widen (k := 43) (n := 417) (by decide) (by decide) ?_
  refine lv_dup hx hb d_Program_init_51 rfl ?_
  refine zk_call (rest := [.ref (ad 63), .int 38, .ref (ad 24)]) (o := 63) G hw [] (zk_Statement_init_63 hJ had hA) (cwI 0 hts (zs_gC zn2_60) rfl rfl rfl (hts _ zn2_56) (hts _ zn2_61) (hts _ zn2_62) rfl (by decide +kernel) ⟨Nat.le_trans (by decide) hR1, Nat.le_trans (by decide) hR2⟩) rfl hl.1 (Nat.le_of_ble_eq_true rfl) d_Program_init_52 ⟨Nat.le_trans (by decide) hR3, Nat.le_trans (by decide) hR4⟩ (fun H locs hw => ?_)
  refine W.widen (k := 43) (n := 417) (by decide) (by decide) ?_
  refine zk_aast (t := 7) (n := 50) (ci := 6) (x := 63) (i := 38) G hw 24 (by decide) (by decide) rfl rfl (by decide) rfl (by decide) rfl rfl (by decide) d_Program_init_55 (fun H locs hw => ?_)
  refine lv_iinc (v := 39) hx hb d_Program_init_56 hl (k := 0) rfl (by decide) (by decide) rfl (fun ls hl => ?_)
  have hl : lv_has ls 2 [(1, .int 39), (0, .ref (ad 20))] := hl
  refine lv_goto hx hb d_Program_init_59 (tgt := 37) rfl ?_
  refine lv_iload_n hx hb d_Program_init_37 rfl (lv_at hl 0 rfl) ?_
  refine lv_bipush (v := 50) hx hb d_Program_init_38 (by decide) ?_
  refine lv_icmp_ge hx hb d_Program_init_40 (tgt := 62) rfl (fun hc => absurd hc (by decide)) (fun _ => ?_)
  refine lv_aload_n hx hb d_Program_init_43 rfl (lv_at hl 1 rfl) ?_
  refine zk_get (ci := 5) G hw 20 7 (by decide) zi_5 rfl rfl rfl (by decide) zn2_54 (fun _ h => h) (q := 24) rfl rfl (by decide) d_Program_init_44 ?_
  refine lv_iload_n hx hb d_Program_init_47 rfl (lv_at hl 0 rfl) ?_
  refine zk_new (ci := 6) G hw zi_6 t_zd6 t_zd6_ok rfl rfl rfl (by decide) (zh_6 ad _) zn2_53 zn2_55 zn2_56 (Nat.le_trans (by decide) hR3) (Nat.le_trans (by decide) hR4) d_Program_init_48 (fun H hw => ?_)
  refine W.widen (k := 44) (n := 426) (by decide) (by decide) ?_
  refine lv_dup hx hb d_Program_init_51 rfl ?_
  refine zk_call (rest := [.ref (ad 64), .int 39, .ref (ad 24)]) (o := 64) G hw [] (zk_Statement_init_64 hJ had hA) (cwI 0 hts (zs_gC zn2_60) rfl rfl rfl (hts _ zn2_56) (hts _ zn2_61) (hts _ zn2_62) rfl (by decide +kernel) ⟨Nat.le_trans (by decide) hR1, Nat.le_trans (by decide) hR2⟩) rfl hl.1 (Nat.le_of_ble_eq_true rfl) d_Program_init_52 ⟨Nat.le_trans (by decide) hR3, Nat.le_trans (by decide) hR4⟩ (fun H locs hw => ?_)
  refine W.widen (k := 44) (n := 426) (by decide) (by decide) ?_
  refine zk_aast (t := 7) (n := 50) (ci := 6) (x := 64) (i := 39) G hw 24 (by decide) (by decide) rfl rfl (by decide) rfl (by decide) rfl rfl (by decide) d_Program_init_55 (fun H locs hw => ?_)
  refine lv_iinc (v := 40) hx hb d_Program_init_56 hl (k := 0) rfl (by decide) (by decide) rfl (fun ls hl => ?_)
  have hl : lv_has ls 2 [(1, .int 40), (0, .ref (ad 20))] := hl
  refine lv_goto hx hb d_Program_init_59 (tgt := 37) rfl ?_
  refine lv_iload_n hx hb d_Program_init_37 rfl (lv_at hl 0 rfl) ?_
  refine lv_bipush (v := 50) hx hb d_Program_init_38 (by decide) ?_
  refine lv_icmp_ge hx hb d_Program_init_40 (tgt := 62) rfl (fun hc => absurd hc (by decide)) (fun _ => ?_)
  refine lv_aload_n hx hb d_Program_init_43 rfl (lv_at hl 1 rfl) ?_
  refine zk_get (ci := 5) G hw 20 7 (by decide) zi_5 rfl rfl rfl (by decide) zn2_54 (fun _ h => h) (q := 24) rfl rfl (by decide) d_Program_init_44 ?_
  refine lv_iload_n hx hb d_Program_init_47 rfl (lv_at hl 0 rfl) ?_
  refine zk_new (ci := 6) G hw zi_6 t_zd6 t_zd6_ok rfl rfl rfl (by decide) (zh_6 ad _) zn2_53 zn2_55 zn2_56 (Nat.le_trans (by decide) hR3) (Nat.le_trans (by decide) hR4) d_Program_init_48 (fun H hw => ?_)
  refine W.widen (k := 45) (n := 435) (by decide) (by decide) ?_
  refine lv_dup hx hb d_Program_init_51 rfl ?_
  refine zk_call (rest := [.ref (ad 65), .int 40, .ref (ad 24)]) (o := 65) G hw [] (zk_Statement_init_65 hJ had hA) (cwI 0 hts (zs_gC zn2_60) rfl rfl rfl (hts _ zn2_56) (hts _ zn2_61) (hts _ zn2_62) rfl (by decide +kernel) ⟨Nat.le_trans (by decide) hR1, Nat.le_trans (by decide) hR2⟩) rfl hl.1 (Nat.le_of_ble_eq_true rfl) d_Program_init_52 ⟨Nat.le_trans (by decide) hR3, Nat.le_trans (by decide) hR4⟩ (fun H locs hw => ?_)
  refine W.widen (k := 45) (n := 435) (by decide) (by decide) ?_
  refine zk_aast (t := 7) (n := 50) (ci := 6) (x := 65) (i := 40) G hw 24 (by decide) (by decide) rfl rfl (by decide) rfl (by decide) rfl rfl (by decide) d_Program_init_55 (fun H locs hw => ?_)
  refine lv_iinc (v := 41) hx hb d_Program_init_56 hl (k := 0) rfl (by decide) (by decide) rfl (fun ls hl => ?_)
  have hl : lv_has ls 2 [(1, .int 41), (0, .ref (ad 20))] := hl
  refine lv_goto hx hb d_Program_init_59 (tgt := 37) rfl ?_
  refine lv_iload_n hx hb d_Program_init_37 rfl (lv_at hl 0 rfl) ?_
  refine lv_bipush (v := 50) hx hb d_Program_init_38 (by decide) ?_
  refine lv_icmp_ge hx hb d_Program_init_40 (tgt := 62) rfl (fun hc => absurd hc (by decide)) (fun _ => ?_)
  refine lv_aload_n hx hb d_Program_init_43 rfl (lv_at hl 1 rfl) ?_
  refine zk_get (ci := 5) G hw 20 7 (by decide) zi_5 rfl rfl rfl (by decide) zn2_54 (fun _ h => h) (q := 24) rfl rfl (by decide) d_Program_init_44 ?_
  refine lv_iload_n hx hb d_Program_init_47 rfl (lv_at hl 0 rfl) ?_
  refine zk_new (ci := 6) G hw zi_6 t_zd6 t_zd6_ok rfl rfl rfl (by decide) (zh_6 ad _) zn2_53 zn2_55 zn2_56 (Nat.le_trans (by decide) hR3) (Nat.le_trans (by decide) hR4) d_Program_init_48 (fun H hw => ?_)
  refine W.widen (k := 46) (n := 444) (by decide) (by decide) ?_
  refine lv_dup hx hb d_Program_init_51 rfl ?_
  refine zk_call (rest := [.ref (ad 66), .int 41, .ref (ad 24)]) (o := 66) G hw [] (zk_Statement_init_66 hJ had hA) (cwI 0 hts (zs_gC zn2_60) rfl rfl rfl (hts _ zn2_56) (hts _ zn2_61) (hts _ zn2_62) rfl (by decide +kernel) ⟨Nat.le_trans (by decide) hR1, Nat.le_trans (by decide) hR2⟩) rfl hl.1 (Nat.le_of_ble_eq_true rfl) d_Program_init_52 ⟨Nat.le_trans (by decide) hR3, Nat.le_trans (by decide) hR4⟩ (fun H locs hw => ?_)
  refine W.widen (k := 46) (n := 444) (by decide) (by decide) ?_
  refine zk_aast (t := 7) (n := 50) (ci := 6) (x := 66) (i := 41) G hw 24 (by decide) (by decide) rfl rfl (by decide) rfl (by decide) rfl rfl (by decide) d_Program_init_55 (fun H locs hw => ?_)
  refine lv_iinc (v := 42) hx hb d_Program_init_56 hl (k := 0) rfl (by decide) (by decide) rfl (fun ls hl => ?_)
  have hl : lv_has ls 2 [(1, .int 42), (0, .ref (ad 20))] := hl
  refine lv_goto hx hb d_Program_init_59 (tgt := 37) rfl ?_
  refine lv_iload_n hx hb d_Program_init_37 rfl (lv_at hl 0 rfl) ?_
  refine lv_bipush (v := 50) hx hb d_Program_init_38 (by decide) ?_
  refine lv_icmp_ge hx hb d_Program_init_40 (tgt := 62) rfl (fun hc => absurd hc (by decide)) (fun _ => ?_)
  refine lv_aload_n hx hb d_Program_init_43 rfl (lv_at hl 1 rfl) ?_
  refine zk_get (ci := 5) G hw 20 7 (by decide) zi_5 rfl rfl rfl (by decide) zn2_54 (fun _ h => h) (q := 24) rfl rfl (by decide) d_Program_init_44 ?_
  refine lv_iload_n hx hb d_Program_init_47 rfl (lv_at hl 0 rfl) ?_
  refine zk_new (ci := 6) G hw zi_6 t_zd6 t_zd6_ok rfl rfl rfl (by decide) (zh_6 ad _) zn2_53 zn2_55 zn2_56 (Nat.le_trans (by decide) hR3) (Nat.le_trans (by decide) hR4) d_Program_init_48 (fun H hw => ?_)
  refine W.widen (k := 47) (n := 453) (by decide) (by decide) ?_
  refine lv_dup hx hb d_Program_init_51 rfl ?_
  refine zk_call (rest := [.ref (ad 67), .int 42, .ref (ad 24)]) (o := 67) G hw [] (zk_Statement_init_67 hJ had hA) (cwI 0 hts (zs_gC zn2_60) rfl rfl rfl (hts _ zn2_56) (hts _ zn2_61) (hts _ zn2_62) rfl (by decide +kernel) ⟨Nat.le_trans (by decide) hR1, Nat.le_trans (by decide) hR2⟩) rfl hl.1 (Nat.le_of_ble_eq_true rfl) d_Program_init_52 ⟨Nat.le_trans (by decide) hR3, Nat.le_trans (by decide) hR4⟩ (fun H locs hw => ?_)
  refine W.widen (k := 47) (n := 453) (by decide) (by decide) ?_
  refine zk_aast (t := 7) (n := 50) (ci := 6) (x := 67) (i := 42) G hw 24 (by decide) (by decide) rfl rfl (by decide) rfl (by decide) rfl rfl (by decide) d_Program_init_55 (fun H locs hw => ?_)
  refine lv_iinc (v := 43) hx hb d_Program_init_56 hl (k := 0) rfl (by decide) (by decide) rfl (fun ls hl => ?_)
  have hl : lv_has ls 2 [(1, .int 43), (0, .ref (ad 20))] := hl
  refine lv_goto hx hb d_Program_init_59 (tgt := 37) rfl ?_
  refine lv_iload_n hx hb d_Program_init_37 rfl (lv_at hl 0 rfl) ?_
  refine lv_bipush (v := 50) hx hb d_Program_init_38 (by decide) ?_
  refine lv_icmp_ge hx hb d_Program_init_40 (tgt := 62) rfl (fun hc => absurd hc (by decide)) (fun _ => ?_)
  refine lv_aload_n hx hb d_Program_init_43 rfl (lv_at hl 1 rfl) ?_
  refine zk_get (ci := 5) G hw 20 7 (by decide) zi_5 rfl rfl rfl (by decide) zn2_54 (fun _ h => h) (q := 24) rfl rfl (by decide) d_Program_init_44 ?_
  refine lv_iload_n hx hb d_Program_init_47 rfl (lv_at hl 0 rfl) ?_
  refine zk_new (ci := 6) G hw zi_6 t_zd6 t_zd6_ok rfl rfl rfl (by decide) (zh_6 ad _) zn2_53 zn2_55 zn2_56 (Nat.le_trans (by decide) hR3) (Nat.le_trans (by decide) hR4) d_Program_init_48 (fun H hw => ?_)
  refine W.widen (k := 48) (n := 462) (by decide) (by decide) ?_
  refine lv_dup hx hb d_Program_init_51 rfl ?_
  refine zk_call (rest := [.ref (ad 68), .int 43, .ref (ad 24)]) (o := 68) G hw [] (zk_Statement_init_68 hJ had hA) (cwI 0 hts (zs_gC zn2_60) rfl rfl rfl (hts _ zn2_56) (hts _ zn2_61) (hts _ zn2_62) rfl (by decide +kernel) ⟨Nat.le_trans (by decide) hR1, Nat.le_trans (by decide) hR2⟩) rfl hl.1 (Nat.le_of_ble_eq_true rfl) d_Program_init_52 ⟨Nat.le_trans (by decide) hR3, Nat.le_trans (by decide) hR4⟩ (fun H locs hw => ?_)
  refine W.widen (k := 48) (n := 462) (by decide) (by decide) ?_
  refine zk_aast (t := 7) (n := 50) (ci := 6) (x := 68) (i := 43) G hw 24 (by decide) (by decide) rfl rfl (by decide) rfl (by decide) rfl rfl (by decide) d_Program_init_55 (fun H locs hw => ?_)
  refine lv_iinc (v := 44) hx hb d_Program_init_56 hl (k := 0) rfl (by decide) (by decide) rfl (fun ls hl => ?_)
  have hl : lv_has ls 2 [(1, .int 44), (0, .ref (ad 20))] := hl
  refine lv_goto hx hb d_Program_init_59 (tgt := 37) rfl ?_
  refine lv_iload_n hx hb d_Program_init_37 rfl (lv_at hl 0 rfl) ?_
  refine lv_bipush (v := 50) hx hb d_Program_init_38 (by decide) ?_
  refine lv_icmp_ge hx hb d_Program_init_40 (tgt := 62) rfl (fun hc => absurd hc (by decide)) (fun _ => ?_)
  refine lv_aload_n hx hb d_Program_init_43 rfl (lv_at hl 1 rfl) ?_
  refine zk_get (ci := 5) G hw 20 7 (by decide) zi_5 rfl rfl rfl (by decide) zn2_54 (fun _ h => h) (q := 24) rfl rfl (by decide) d_Program_init_44 ?_
  refine lv_iload_n hx hb d_Program_init_47 rfl (lv_at hl 0 rfl) ?_
  refine zk_new (ci := 6) G hw zi_6 t_zd6 t_zd6_ok rfl rfl rfl (by decide) (zh_6 ad _) zn2_53 zn2_55 zn2_56 (Nat.le_trans (by decide) hR3) (Nat.le_trans (by decide) hR4) d_Program_init_48 (fun H hw => ?_)
  refine W.widen (k := 49) (n := 471) (by decide) (by decide) ?_
  refine lv_dup hx hb d_Program_init_51 rfl ?_
  refine zk_call (rest := [.ref (ad 69), .int 44, .ref (ad 24)]) (o := 69) G hw [] (zk_Statement_init_69 hJ had hA) (cwI 0 hts (zs_gC zn2_60) rfl rfl rfl (hts _ zn2_56) (hts _ zn2_61) (hts _ zn2_62) rfl (by decide +kernel) ⟨Nat.le_trans (by decide) hR1, Nat.le_trans (by decide) hR2⟩) rfl hl.1 (Nat.le_of_ble_eq_true rfl) d_Program_init_52 ⟨Nat.le_trans (by decide) hR3, Nat.le_trans (by decide) hR4⟩ (fun H locs hw => ?_)
  refine W.widen (k := 49) (n := 471) (by decide) (by decide) ?_
  refine zk_aast (t := 7) (n := 50) (ci := 6) (x := 69) (i := 44) G hw 24 (by decide) (by decide) rfl rfl (by decide) rfl (by decide) rfl rfl (by decide) d_Program_init_55 (fun H locs hw => ?_)
  refine lv_iinc (v := 45) hx hb d_Program_init_56 hl (k := 0) rfl (by decide) (by decide) rfl (fun ls hl => ?_)
  have hl : lv_has ls 2 [(1, .int 45), (0, .ref (ad 20))] := hl
  refine lv_goto hx hb d_Program_init_59 (tgt := 37) rfl ?_
  refine lv_iload_n hx hb d_Program_init_37 rfl (lv_at hl 0 rfl) ?_
  refine lv_bipush (v := 50) hx hb d_Program_init_38 (by decide) ?_
  refine lv_icmp_ge hx hb d_Program_init_40 (tgt := 62) rfl (fun hc => absurd hc (by decide)) (fun _ => ?_)
  refine lv_aload_n hx hb d_Program_init_43 rfl (lv_at hl 1 rfl) ?_
  refine zk_get (ci := 5) G hw 20 7 (by decide) zi_5 rfl rfl rfl (by decide) zn2_54 (fun _ h => h) (q := 24) rfl rfl (by decide) d_Program_init_44 ?_
  refine lv_iload_n hx hb d_Program_init_47 rfl (lv_at hl 0 rfl) ?_
  refine zk_new (ci := 6) G hw zi_6 t_zd6 t_zd6_ok rfl rfl rfl (by decide) (zh_6 ad _) zn2_53 zn2_55 zn2_56 (Nat.le_trans (by decide) hR3) (Nat.le_trans (by decide) hR4) d_Program_init_48 (fun H hw => ?_)
  refine W.widen (k := 50) (n := 480) (by decide) (by decide) ?_
  refine lv_dup hx hb d_Program_init_51 rfl ?_
  refine zk_call (rest := [.ref (ad 70), .int 45, .ref (ad 24)]) (o := 70) G hw [] (zk_Statement_init_70 hJ had hA) (cwI 0 hts (zs_gC zn2_60) rfl rfl rfl (hts _ zn2_56) (hts _ zn2_61) (hts _ zn2_62) rfl (by decide +kernel) ⟨Nat.le_trans (by decide) hR1, Nat.le_trans (by decide) hR2⟩) rfl hl.1 (Nat.le_of_ble_eq_true rfl) d_Program_init_52 ⟨Nat.le_trans (by decide) hR3, Nat.le_trans (by decide) hR4⟩ (fun H locs hw => ?_)
  refine W.widen (k := 50) (n := 480) (by decide) (by decide) ?_
  refine zk_aast (t := 7) (n := 50) (ci := 6) (x := 70) (i := 45) G hw 24 (by decide) (by decide) rfl rfl (by decide) rfl (by decide) rfl rfl (by decide) d_Program_init_55 (fun H locs hw => ?_)
  refine lv_iinc (v := 46) hx hb d_Program_init_56 hl (k := 0) rfl (by decide) (by decide) rfl (fun ls hl => ?_)
  have hl : lv_has ls 2 [(1, .int 46), (0, .ref (ad 20))] := hl
  refine lv_goto hx hb d_Program_init_59 (tgt := 37) rfl ?_
  refine lv_iload_n hx hb d_Program_init_37 rfl (lv_at hl 0 rfl) ?_
  refine lv_bipush (v := 50) hx hb d_Program_init_38 (by decide) ?_
  refine lv_icmp_ge hx hb d_Program_init_40 (tgt := 62) rfl (fun hc => absurd hc (by decide)) (fun _ => ?_)
  refine lv_aload_n hx hb d_Program_init_43 rfl (lv_at hl 1 rfl) ?_
  refine zk_get (ci := 5) G hw 20 7 (by decide) zi_5 rfl rfl rfl (by decide) zn2_54 (fun _ h => h) (q := 24) rfl rfl (by decide) d_Program_init_44 ?_
  refine lv_iload_n hx hb d_Program_init_47 rfl (lv_at hl 0 rfl) ?_
  refine zk_new (ci := 6) G hw zi_6 t_zd6 t_zd6_ok rfl rfl rfl (by decide) (zh_6 ad _) zn2_53 zn2_55 zn2_56 (Nat.le_trans (by decide) hR3) (Nat.le_trans (by decide) hR4) d_Program_init_48 (fun H hw => ?_)
  refine W.widen (k := 51) (n := 489) (by decide) (by decide) ?_
  refine lv_dup hx hb d_Program_init_51 rfl ?_
  refine zk_call (rest := [.ref (ad 71), .int 46, .ref (ad 24)]) (o := 71) G hw [] (zk_Statement_init_71 hJ had hA) (cwI 0 hts (zs_gC zn2_60) rfl rfl rfl (hts _ zn2_56) (hts _ zn2_61) (hts _ zn2_62) rfl (by decide +kernel) ⟨Nat.le_trans (by decide) hR1, Nat.le_trans (by decide) hR2⟩) rfl hl.1 (Nat.le_of_ble_eq_true rfl) d_Program_init_52 ⟨Nat.le_trans (by decide) hR3, Nat.le_trans (by decide) hR4⟩ (fun H locs hw => ?_)
  refine W.widen (k := 51) (n := 489) (by decide) (by decide) ?_
  refine zk_aast (t := 7) (n := 50) (ci := 6) (x := 71) (i := 46) G hw 24 (by decide) (by decide) rfl rfl (by decide) rfl (by decide) rfl rfl (by decide) d_Program_init_55 (fun H locs hw => ?_)
  refine lv_iinc (v := 47) hx hb d_Program_init_56 hl (k := 0) rfl (by decide) (by decide) rfl (fun ls hl => ?_)
  have hl : lv_has ls 2 [(1, .int 47), (0, .ref (ad 20))] := hl
  refine lv_goto hx hb d_Program_init_59 (tgt := 37) rfl ?_
  refine lv_iload_n hx hb d_Program_init_37 rfl (lv_at hl 0 rfl) ?_
  refine lv_bipush (v := 50) hx hb d_Program_init_38 (by decide) ?_
  refine lv_icmp_ge hx hb d_Program_init_40 (tgt := 62) rfl (fun hc => absurd hc (by decide)) (fun _ => ?_)
  refine lv_aload_n hx hb d_Program_init_43 rfl (lv_at hl 1 rfl) ?_
  refine zk_get (ci := 5) G hw 20 7 (by decide) zi_5 rfl rfl rfl (by decide) zn2_54 (fun _ h => h) (q := 24) rfl rfl (by decide) d_Program_init_44 ?_
  refine lv_iload_n hx hb d_Program_init_47 rfl (lv_at hl 0 rfl) ?_
  refine zk_new (ci := 6) G hw zi_6 t_zd6 t_zd6_ok rfl rfl rfl (by decide) (zh_6 ad _) zn2_53 zn2_55 zn2_56 (Nat.le_trans (by decide) hR3) (Nat.le_trans (by decide) hR4) d_Program_init_48 (fun H hw => ?_)
  refine W.widen (k := 52) (n := 498) (by decide) (by decide) ?_
  refine lv_dup hx hb d_Program_init_51 rfl ?_
  refine zk_call (rest := [.ref (ad 72), .int 47, .ref (ad 24)]) (o := 72) G hw [] (zk_Statement_init_72 hJ had hA) (cwI 0 hts (zs_gC zn2_60) rfl rfl rfl (hts _ zn2_56) (hts _ zn2_61) (hts _ zn2_62) rfl (by decide +kernel) ⟨Nat.le_trans (by decide) hR1, Nat.le_trans (by decide) hR2⟩) rfl hl.1 (Nat.le_of_ble_eq_true rfl) d_Program_init_52 ⟨Nat.le_trans (by decide) hR3, Nat.le_trans (by decide) hR4⟩ (fun H locs hw => ?_)
  refine W.widen (k := 52) (n := 498) (by decide) (by decide) ?_
  refine zk_aast (t := 7) (n := 50) (ci := 6) (x := 72) (i := 47) G hw 24 (by decide) (by decide) rfl rfl (by decide) rfl (by decide) rfl rfl (by decide) d_Program_init_55 (fun H locs hw => ?_)
  refine lv_iinc (v := 48) hx hb d_Program_init_56 hl (k := 0) rfl (by decide) (by decide) rfl (fun ls hl => ?_)
  have hl : lv_has ls 2 [(1, .int 48), (0, .ref (ad 20))] := hl
  refine lv_goto hx hb d_Program_init_59 (tgt := 37) rfl ?_
  refine lv_iload_n hx hb d_Program_init_37 rfl (lv_at hl 0 rfl) ?_
  refine lv_bipush (v := 50) hx hb d_Program_init_38 (by decide) ?_
  refine lv_icmp_ge hx hb d_Program_init_40 (tgt := 62) rfl (fun hc => absurd hc (by decide)) (fun _ => ?_)
  refine lv_aload_n hx hb d_Program_init_43 rfl (lv_at hl 1 rfl) ?_
  refine zk_get (ci := 5) G hw 20 7 (by decide) zi_5 rfl rfl rfl (by decide) zn2_54 (fun _ h => h) (q := 24) rfl rfl (by decide) d_Program_init_44 ?_
  refine lv_iload_n hx hb d_Program_init_47 rfl (lv_at hl 0 rfl) ?_
  refine zk_new (ci := 6) G hw zi_6 t_zd6 t_zd6_ok rfl rfl rfl (by decide) (zh_6 ad _) zn2_53 zn2_55 zn2_56 (Nat.le_trans (by decide) hR3) (Nat.le_trans (by decide) hR4) d_Program_init_48 (fun H hw => ?_)
  refine W.widen (k := 53) (n := 507) (by decide) (by decide) ?_
  refine lv_dup hx hb d_Program_init_51 rfl ?_
  refine zk_call (rest := [.ref (ad 73), .int 48, .ref (ad 24)]) (o := 73) G hw [] (zk_Statement_init_73 hJ had hA) (cwI 0 hts (zs_gC zn2_60) rfl rfl rfl (hts _ zn2_56) (hts _ zn2_61) (hts _ zn2_62) rfl (by decide +kernel) ⟨Nat.le_trans (by decide) hR1, Nat.le_trans (by decide) hR2⟩) rfl hl.1 (Nat.le_of_ble_eq_true rfl) d_Program_init_52 ⟨Nat.le_trans (by decide) hR3, Nat.le_trans (by decide) hR4⟩ (fun H locs hw => ?_)
  refine W.widen (k := 53) (n := 507) (by decide) (by decide) ?_
  refine zk_aast (t := 7) (n := 50) (ci := 6) (x := 73) (i := 48) G hw 24 (by decide) (by decide) rfl rfl (by decide) rfl (by decide) rfl rfl (by decide) d_Program_init_55 (fun H locs hw => ?_)
  refine lv_iinc (v := 49) hx hb d_Program_init_56 hl (k := 0) rfl (by decide) (by decide) rfl (fun ls hl => ?_)
  have hl : lv_has ls 2 [(1, .int 49), (0, .ref (ad 20))] := hl
  refine lv_goto hx hb d_Program_init_59 (tgt := 37) rfl ?_
  refine lv_iload_n hx hb d_Program_init_37 rfl (lv_at hl 0 rfl) ?_
  refine lv_bipush (v := 50) hx hb d_Program_init_38 (by decide) ?_
  refine lv_icmp_ge hx hb d_Program_init_40 (tgt := 62) rfl (fun hc => absurd hc (by decide)) (fun _ => ?_)
  refine lv_aload_n hx hb d_Program_init_43 rfl (lv_at hl 1 rfl) ?_
  refine zk_get (ci := 5) G hw 20 7 (by decide) zi_5 rfl rfl rfl (by decide) zn2_54 (fun _ h => h) (q := 24) rfl rfl (by decide) d_Program_init_44 ?_
  refine lv_iload_n hx hb d_Program_init_47 rfl (lv_at hl 0 rfl) ?_
  refine zk_new (ci := 6) G hw zi_6 t_zd6 t_zd6_ok rfl rfl rfl (by decide) (zh_6 ad _) zn2_53 zn2_55 zn2_56 (Nat.le_trans (by decide) hR3) (Nat.le_trans (by decide) hR4) d_Program_init_48 (fun H hw => ?_)
  refine W.widen (k := 54) (n := 516) (by decide) (by decide) ?_
  refine lv_dup hx hb d_Program_init_51 rfl ?_
  refine zk_call (rest := [.ref (ad 74), .int 49, .ref (ad 24)]) (o := 74) G hw [] (zk_Statement_init_74 hJ had hA) (cwI 0 hts (zs_gC zn2_60) rfl rfl rfl (hts _ zn2_56) (hts _ zn2_61) (hts _ zn2_62) rfl (by decide +kernel) ⟨Nat.le_trans (by decide) hR1, Nat.le_trans (by decide) hR2⟩) rfl hl.1 (Nat.le_of_ble_eq_true rfl) d_Program_init_52 ⟨Nat.le_trans (by decide) hR3, Nat.le_trans (by decide) hR4⟩ (fun H locs hw => ?_)
  refine W.widen (k := 54) (n := 516) (by decide) (by decide) ?_
  refine zk_aast (t := 7) (n := 50) (ci := 6) (x := 74) (i := 49) G hw 24 (by decide) (by decide) rfl rfl (by decide) rfl (by decide) rfl rfl (by decide) d_Program_init_55 (fun H locs hw => ?_)
  refine lv_iinc (v := 50) hx hb d_Program_init_56 hl (k := 0) rfl (by decide) (by decide) rfl (fun ls hl => ?_)
  have hl : lv_has ls 2 [(1, .int 50), (0, .ref (ad 20))] := hl
  refine lv_goto hx hb d_Program_init_59 (tgt := 37) rfl ?_
  refine lv_iload_n hx hb d_Program_init_37 rfl (lv_at hl 0 rfl) ?_
  refine lv_bipush (v := 50) hx hb d_Program_init_38 (by decide) ?_
  refine lv_icmp_ge hx hb d_Program_init_40 (tgt := 62) rfl (fun _ => ?_) (fun hc => absurd hc (by decide))
  refine lv_aload_n hx hb d_Program_init_62 rfl (lv_at hl 1 rfl) ?_
  refine zk_new (ci := 7) G hw zi_7 t_zd7 t_zd7_ok rfl rfl rfl (by decide) (zh_7 ad _) zn2_63 zn2_64 zn2_65 (Nat.le_trans (by decide) hR3) (Nat.le_trans (by decide) hR4) d_Program_init_63 (fun H hw => ?_)
  refine W.widen (k := 55) (n := 520) (by decide) (by decide) ?_
  refine lv_dup hx hb d_Program_init_66 rfl ?_
  refine zk_call (rest := [.ref (ad 75), .ref (ad 20)]) (o := 75) G hw [] (zk_Code_init_75 hJ had hA) (cwI 0 hts (zs_gC zn2_71) rfl rfl rfl (hts _ zn2_65) (hts _ zn2_72) (hts _ zn2_73) rfl (by decide +kernel) ⟨Nat.le_trans (by decide) hR1, Nat.le_trans (by decide) hR2⟩) rfl hl.1 (Nat.le_of_ble_eq_true rfl) d_Program_init_67 ⟨Nat.le_trans (by decide) hR3, Nat.le_trans (by decide) hR4⟩ (fun H locs hw => ?_)
  refine W.widen (k := 58) (n := 3870) (by decide) (by decide) ?_
  refine zk_putF (ci := 5) G hw 20 8 (by decide) (by decide) zi_5 t_zd5 t_zd5_ok n_zd5 rfl rfl rfl (by decide) rfl zn2_74 (fun _ h => h) rfl hin rfl (x := 75) (by decide) (t_zd5_ok 8 (by decide)) rfl rfl d_Program_init_70 (fun H locs hw => ?_)
  exact zk_vret G hw hr hlocks hQ d_Program_init_73
def zk_f_Statement_init_84 (σ : zs_S) : zs_S := (zs_wr σ 84 0 1109)
set_option maxHeartbeats 8000000 in
set_option maxRecDepth 100000 in
theorem zk_Statement_init_84 {l : Launch} {D : va_G} {cA : Nat → ClassId} {ad : Nat → Nat} {A : Nat → Prop} {b : Nat} {σ : zs_S} (hJ : zs_J ad) (had : ∀ o, 1 ≤ o → o ≤ zd_M 2 → ad o = b + (o - 1)) (hA : ∀ q, b ≤ q → A q) : Met l y_Statement_init (.code y_Statement_init prog_8_method_1_code 1 none :: zd_ww) { frames := 1, cells := 0, slots := 0, locals := 30 } (va_Pc [.ref (ad 84)] (zk_U 2 D cA ad A b 84 σ)) (zk_Q 2 D cA ad A b 84 (zk_f_Statement_init_84 σ)) 0 0 A := by
  refine Met.ofW (cc := prog_8_method_1_code) (maxL := 1) (ret := none) (by decide) rfl ?_
  intro p e s m args below meth c s₁ B hml hv
  obtain ⟨hargs, hP, hK, hD, hZ, hz, hd, hO⟩ := hv
  have G : zk_G 2 p s m args c prog_8_method_1_code 1 "ScheduleCheck$Statement" D cA ad A b := ⟨⟨B.exec, B.bytes, hml, findClass_of_methodNamed B.named, fun w h => atoms_spec B.pre w (List.mem_cons_of_mem _ h)⟩, hK, hJ, hZ, had, hA, hO⟩
  have hw : zk_I 2 D cA ad A s b 84 σ s.heap [] := ⟨hP, hD, va_S.rf, hz, hd⟩
  have hx := G.1.1
  have hb := G.1.2.1
  have hown := G.1.2.2.2.1
  have hts := G.1.2.2.2.2
  have hr := B.returns
  have hlocks := B.notSynchronized
  have hin : meth.name = "<init>" := (name_of_methodNamed B.named B.method).1
  have he : entryFrame m args 1 = F0 m 0 ((lg_sl [.ref (ad 84)] ++ List.replicate (1 - (lg_sl [.ref (ad 84)]).length) Slot.unset).toArray) [] := by rw [hargs]; exact lg_entry_eq m _ 1
  have hl := lv_entry [.ref (ad 84)] (n := 1) (Nat.le_of_ble_eq_true rfl)
  rw [he]
  generalize (lg_sl [.ref (ad 84)] ++ List.replicate (1 - (lg_sl [.ref (ad 84)]).length) Slot.unset).toArray = ls at hl
  have hl : lv_has ls 1 [(0, .ref (ad 84))] := hl
  obtain ⟨RR, hR⟩ : ∃ z, z = (headSpec (.code y_Statement_init prog_8_method_1_code 1 none :: zd_ww) { frames := 1, cells := 0, slots := 0, locals := 30 }).room := ⟨_, rfl⟩
  rw [← hR]
  obtain ⟨QQ, hQ⟩ : ∃ z, z = MQ below (zk_Q 2 D cA ad A b 84 (zk_f_Statement_init_84 σ)) args s 0 0 A := ⟨_, rfl⟩
  rw [← hQ]
  have hR1 : 1 ≤ RR.frames := by rw [hR]; exact Nat.le_refl _
  have hR2 : 30 ≤ RR.locals := by rw [hR]; exact Nat.le_refl _
  have hR3 : 0 ≤ RR.cells := by rw [hR]; exact Nat.le_refl _
  have hR4 : 0 ≤ RR.slots := by rw [hR]; exact Nat.le_refl _
  generalize s.heap = H at hw ⊢
  generalize ([] : List Loc) = locs at hw ⊢
  refine lv_aload_n hx hb d_Statement_init_0 rfl (lv_at hl 0 rfl) ?_
  refine W.objInit hx hb hown (hts _ zn2_57) (hts _ zn2_1) (hts _ zn2_2) rfl (by rw [hml]; exact hl.1) rfl d_Statement_init_1 (Nat.le_trans (by decide) hR1) (Nat.le_trans (Nat.le_of_ble_eq_true rfl) hR2) ?_
  refine W.eq (g2 := F0 m 4 ls []) rfl ?_
  refine lv_aload_n hx hb d_Statement_init_4 rfl (lv_at hl 0 rfl) ?_
  refine va_gets (C := "ScheduleCheck$Kind") (n := "STOP") (d := "LScheduleCheck$Kind;") (v := .ref (ad 1109)) hx hb ((G.2.2.2.1.1 rfl).2.2.1.1 9 (by decide)).1 hw.2.2.1 hown (hts _ zn2_58) (fun _ h => h) d_Statement_init_5 ?_
  refine zk_putr (ci := 6) G hw 84 0 (by decide) (by decide) zi_6 t_zd6 t_zd6_ok n_zd6 rfl rfl rfl (by decide) rfl zn2_59 (fun _ h => h) rfl  (x := 1109) (by decide) (t_zd6_ok 0 (by decide)) rfl rfl d_Statement_init_8 (fun H locs hw => ?_)
  exact zk_vret G hw hr hlocks hQ d_Statement_init_11
def zk_f_Statement_init_85 (σ : zs_S) : zs_S := (zs_wr σ 85 0 1109)
set_option maxHeartbeats 8000000 in
set_option maxRecDepth 100000 in
theorem zk_Statement_init_85 {l : Launch} {D : va_G} {cA : Nat → ClassId} {ad : Nat → Nat} {A : Nat → Prop} {b : Nat} {σ : zs_S} (hJ : zs_J ad) (had : ∀ o, 1 ≤ o → o ≤ zd_M 2 → ad o = b + (o - 1)) (hA : ∀ q, b ≤ q → A q) : Met l y_Statement_init (.code y_Statement_init prog_8_method_1_code 1 none :: zd_ww) { frames := 1, cells := 0, slots := 0, locals := 30 } (va_Pc [.ref (ad 85)] (zk_U 2 D cA ad A b 85 σ)) (zk_Q 2 D cA ad A b 85 (zk_f_Statement_init_85 σ)) 0 0 A := by
  refine Met.ofW (cc := prog_8_method_1_code) (maxL := 1) (ret := none) (by decide) rfl ?_
  intro p e s m args below meth c s₁ B hml hv
  obtain ⟨hargs, hP, hK, hD, hZ, hz, hd, hO⟩ := hv
  have G : zk_G 2 p s m args c prog_8_method_1_code 1 "ScheduleCheck$Statement" D cA ad A b := ⟨⟨B.exec, B.bytes, hml, findClass_of_methodNamed B.named, fun w h => atoms_spec B.pre w (List.mem_cons_of_mem _ h)⟩, hK, hJ, hZ, had, hA, hO⟩
  have hw : zk_I 2 D cA ad A s b 85 σ s.heap [] := ⟨hP, hD, va_S.rf, hz, hd⟩
  have hx := G.1.1
  have hb := G.1.2.1
  have hown := G.1.2.2.2.1
  have hts := G.1.2.2.2.2
  have hr := B.returns
  have hlocks := B.notSynchronized
  have hin : meth.name = "<init>" := (name_of_methodNamed B.named B.method).1
  have he : entryFrame m args 1 = F0 m 0 ((lg_sl [.ref (ad 85)] ++ List.replicate (1 - (lg_sl [.ref (ad 85)]).length) Slot.unset).toArray) [] := by rw [hargs]; exact lg_entry_eq m _ 1
  have hl := lv_entry [.ref (ad 85)] (n := 1) (Nat.le_of_ble_eq_true rfl)
  rw [he]
  generalize (lg_sl [.ref (ad 85)] ++ List.replicate (1 - (lg_sl [.ref (ad 85)]).length) Slot.unset).toArray = ls at hl
  have hl : lv_has ls 1 [(0, .ref (ad 85))] := hl
  obtain ⟨RR, hR⟩ : ∃ z, z = (headSpec (.code y_Statement_init prog_8_method_1_code 1 none :: zd_ww) { frames := 1, cells := 0, slots := 0, locals := 30 }).room := ⟨_, rfl⟩
  rw [← hR]
  obtain ⟨QQ, hQ⟩ : ∃ z, z = MQ below (zk_Q 2 D cA ad A b 85 (zk_f_Statement_init_85 σ)) args s 0 0 A := ⟨_, rfl⟩
  rw [← hQ]
  have hR1 : 1 ≤ RR.frames := by rw [hR]; exact Nat.le_refl _
  have hR2 : 30 ≤ RR.locals := by rw [hR]; exact Nat.le_refl _
  have hR3 : 0 ≤ RR.cells := by rw [hR]; exact Nat.le_refl _
  have hR4 : 0 ≤ RR.slots := by rw [hR]; exact Nat.le_refl _
  generalize s.heap = H at hw ⊢
  generalize ([] : List Loc) = locs at hw ⊢
  refine lv_aload_n hx hb d_Statement_init_0 rfl (lv_at hl 0 rfl) ?_
  refine W.objInit hx hb hown (hts _ zn2_57) (hts _ zn2_1) (hts _ zn2_2) rfl (by rw [hml]; exact hl.1) rfl d_Statement_init_1 (Nat.le_trans (by decide) hR1) (Nat.le_trans (Nat.le_of_ble_eq_true rfl) hR2) ?_
  refine W.eq (g2 := F0 m 4 ls []) rfl ?_
  refine lv_aload_n hx hb d_Statement_init_4 rfl (lv_at hl 0 rfl) ?_
  refine va_gets (C := "ScheduleCheck$Kind") (n := "STOP") (d := "LScheduleCheck$Kind;") (v := .ref (ad 1109)) hx hb ((G.2.2.2.1.1 rfl).2.2.1.1 9 (by decide)).1 hw.2.2.1 hown (hts _ zn2_58) (fun _ h => h) d_Statement_init_5 ?_
  refine zk_putr (ci := 6) G hw 85 0 (by decide) (by decide) zi_6 t_zd6 t_zd6_ok n_zd6 rfl rfl rfl (by decide) rfl zn2_59 (fun _ h => h) rfl  (x := 1109) (by decide) (t_zd6_ok 0 (by decide)) rfl rfl d_Statement_init_8 (fun H locs hw => ?_)
  exact zk_vret G hw hr hlocks hQ d_Statement_init_11
def zk_f_Statement_init_86 (σ : zs_S) : zs_S := (zs_wr σ 86 0 1109)
set_option maxHeartbeats 8000000 in
set_option maxRecDepth 100000 in
theorem zk_Statement_init_86 {l : Launch} {D : va_G} {cA : Nat → ClassId} {ad : Nat → Nat} {A : Nat → Prop} {b : Nat} {σ : zs_S} (hJ : zs_J ad) (had : ∀ o, 1 ≤ o → o ≤ zd_M 2 → ad o = b + (o - 1)) (hA : ∀ q, b ≤ q → A q) : Met l y_Statement_init (.code y_Statement_init prog_8_method_1_code 1 none :: zd_ww) { frames := 1, cells := 0, slots := 0, locals := 30 } (va_Pc [.ref (ad 86)] (zk_U 2 D cA ad A b 86 σ)) (zk_Q 2 D cA ad A b 86 (zk_f_Statement_init_86 σ)) 0 0 A := by
  refine Met.ofW (cc := prog_8_method_1_code) (maxL := 1) (ret := none) (by decide) rfl ?_
  intro p e s m args below meth c s₁ B hml hv
  obtain ⟨hargs, hP, hK, hD, hZ, hz, hd, hO⟩ := hv
  have G : zk_G 2 p s m args c prog_8_method_1_code 1 "ScheduleCheck$Statement" D cA ad A b := ⟨⟨B.exec, B.bytes, hml, findClass_of_methodNamed B.named, fun w h => atoms_spec B.pre w (List.mem_cons_of_mem _ h)⟩, hK, hJ, hZ, had, hA, hO⟩
  have hw : zk_I 2 D cA ad A s b 86 σ s.heap [] := ⟨hP, hD, va_S.rf, hz, hd⟩
  have hx := G.1.1
  have hb := G.1.2.1
  have hown := G.1.2.2.2.1
  have hts := G.1.2.2.2.2
  have hr := B.returns
  have hlocks := B.notSynchronized
  have hin : meth.name = "<init>" := (name_of_methodNamed B.named B.method).1
  have he : entryFrame m args 1 = F0 m 0 ((lg_sl [.ref (ad 86)] ++ List.replicate (1 - (lg_sl [.ref (ad 86)]).length) Slot.unset).toArray) [] := by rw [hargs]; exact lg_entry_eq m _ 1
  have hl := lv_entry [.ref (ad 86)] (n := 1) (Nat.le_of_ble_eq_true rfl)
  rw [he]
  generalize (lg_sl [.ref (ad 86)] ++ List.replicate (1 - (lg_sl [.ref (ad 86)]).length) Slot.unset).toArray = ls at hl
  have hl : lv_has ls 1 [(0, .ref (ad 86))] := hl
  obtain ⟨RR, hR⟩ : ∃ z, z = (headSpec (.code y_Statement_init prog_8_method_1_code 1 none :: zd_ww) { frames := 1, cells := 0, slots := 0, locals := 30 }).room := ⟨_, rfl⟩
  rw [← hR]
  obtain ⟨QQ, hQ⟩ : ∃ z, z = MQ below (zk_Q 2 D cA ad A b 86 (zk_f_Statement_init_86 σ)) args s 0 0 A := ⟨_, rfl⟩
  rw [← hQ]
  have hR1 : 1 ≤ RR.frames := by rw [hR]; exact Nat.le_refl _
  have hR2 : 30 ≤ RR.locals := by rw [hR]; exact Nat.le_refl _
  have hR3 : 0 ≤ RR.cells := by rw [hR]; exact Nat.le_refl _
  have hR4 : 0 ≤ RR.slots := by rw [hR]; exact Nat.le_refl _
  generalize s.heap = H at hw ⊢
  generalize ([] : List Loc) = locs at hw ⊢
  refine lv_aload_n hx hb d_Statement_init_0 rfl (lv_at hl 0 rfl) ?_
  refine W.objInit hx hb hown (hts _ zn2_57) (hts _ zn2_1) (hts _ zn2_2) rfl (by rw [hml]; exact hl.1) rfl d_Statement_init_1 (Nat.le_trans (by decide) hR1) (Nat.le_trans (Nat.le_of_ble_eq_true rfl) hR2) ?_
  refine W.eq (g2 := F0 m 4 ls []) rfl ?_
  refine lv_aload_n hx hb d_Statement_init_4 rfl (lv_at hl 0 rfl) ?_
  refine va_gets (C := "ScheduleCheck$Kind") (n := "STOP") (d := "LScheduleCheck$Kind;") (v := .ref (ad 1109)) hx hb ((G.2.2.2.1.1 rfl).2.2.1.1 9 (by decide)).1 hw.2.2.1 hown (hts _ zn2_58) (fun _ h => h) d_Statement_init_5 ?_
  refine zk_putr (ci := 6) G hw 86 0 (by decide) (by decide) zi_6 t_zd6 t_zd6_ok n_zd6 rfl rfl rfl (by decide) rfl zn2_59 (fun _ h => h) rfl  (x := 1109) (by decide) (t_zd6_ok 0 (by decide)) rfl rfl d_Statement_init_8 (fun H locs hw => ?_)
  exact zk_vret G hw hr hlocks hQ d_Statement_init_11
def zk_f_Statement_init_87 (σ : zs_S) : zs_S := (zs_wr σ 87 0 1109)
set_option maxHeartbeats 8000000 in
set_option maxRecDepth 100000 in
theorem zk_Statement_init_87 {l : Launch} {D : va_G} {cA : Nat → ClassId} {ad : Nat → Nat} {A : Nat → Prop} {b : Nat} {σ : zs_S} (hJ : zs_J ad) (had : ∀ o, 1 ≤ o → o ≤ zd_M 2 → ad o = b + (o - 1)) (hA : ∀ q, b ≤ q → A q) : Met l y_Statement_init (.code y_Statement_init prog_8_method_1_code 1 none :: zd_ww) { frames := 1, cells := 0, slots := 0, locals := 30 } (va_Pc [.ref (ad 87)] (zk_U 2 D cA ad A b 87 σ)) (zk_Q 2 D cA ad A b 87 (zk_f_Statement_init_87 σ)) 0 0 A := by
  refine Met.ofW (cc := prog_8_method_1_code) (maxL := 1) (ret := none) (by decide) rfl ?_
  intro p e s m args below meth c s₁ B hml hv
  obtain ⟨hargs, hP, hK, hD, hZ, hz, hd, hO⟩ := hv
  have G : zk_G 2 p s m args c prog_8_method_1_code 1 "ScheduleCheck$Statement" D cA ad A b := ⟨⟨B.exec, B.bytes, hml, findClass_of_methodNamed B.named, fun w h => atoms_spec B.pre w (List.mem_cons_of_mem _ h)⟩, hK, hJ, hZ, had, hA, hO⟩
  have hw : zk_I 2 D cA ad A s b 87 σ s.heap [] := ⟨hP, hD, va_S.rf, hz, hd⟩
  have hx := G.1.1
  have hb := G.1.2.1
  have hown := G.1.2.2.2.1
  have hts := G.1.2.2.2.2
  have hr := B.returns
  have hlocks := B.notSynchronized
  have hin : meth.name = "<init>" := (name_of_methodNamed B.named B.method).1
  have he : entryFrame m args 1 = F0 m 0 ((lg_sl [.ref (ad 87)] ++ List.replicate (1 - (lg_sl [.ref (ad 87)]).length) Slot.unset).toArray) [] := by rw [hargs]; exact lg_entry_eq m _ 1
  have hl := lv_entry [.ref (ad 87)] (n := 1) (Nat.le_of_ble_eq_true rfl)
  rw [he]
  generalize (lg_sl [.ref (ad 87)] ++ List.replicate (1 - (lg_sl [.ref (ad 87)]).length) Slot.unset).toArray = ls at hl
  have hl : lv_has ls 1 [(0, .ref (ad 87))] := hl
  obtain ⟨RR, hR⟩ : ∃ z, z = (headSpec (.code y_Statement_init prog_8_method_1_code 1 none :: zd_ww) { frames := 1, cells := 0, slots := 0, locals := 30 }).room := ⟨_, rfl⟩
  rw [← hR]
  obtain ⟨QQ, hQ⟩ : ∃ z, z = MQ below (zk_Q 2 D cA ad A b 87 (zk_f_Statement_init_87 σ)) args s 0 0 A := ⟨_, rfl⟩
  rw [← hQ]
  have hR1 : 1 ≤ RR.frames := by rw [hR]; exact Nat.le_refl _
  have hR2 : 30 ≤ RR.locals := by rw [hR]; exact Nat.le_refl _
  have hR3 : 0 ≤ RR.cells := by rw [hR]; exact Nat.le_refl _
  have hR4 : 0 ≤ RR.slots := by rw [hR]; exact Nat.le_refl _
  generalize s.heap = H at hw ⊢
  generalize ([] : List Loc) = locs at hw ⊢
  refine lv_aload_n hx hb d_Statement_init_0 rfl (lv_at hl 0 rfl) ?_
  refine W.objInit hx hb hown (hts _ zn2_57) (hts _ zn2_1) (hts _ zn2_2) rfl (by rw [hml]; exact hl.1) rfl d_Statement_init_1 (Nat.le_trans (by decide) hR1) (Nat.le_trans (Nat.le_of_ble_eq_true rfl) hR2) ?_
  refine W.eq (g2 := F0 m 4 ls []) rfl ?_
  refine lv_aload_n hx hb d_Statement_init_4 rfl (lv_at hl 0 rfl) ?_
  refine va_gets (C := "ScheduleCheck$Kind") (n := "STOP") (d := "LScheduleCheck$Kind;") (v := .ref (ad 1109)) hx hb ((G.2.2.2.1.1 rfl).2.2.1.1 9 (by decide)).1 hw.2.2.1 hown (hts _ zn2_58) (fun _ h => h) d_Statement_init_5 ?_
  refine zk_putr (ci := 6) G hw 87 0 (by decide) (by decide) zi_6 t_zd6 t_zd6_ok n_zd6 rfl rfl rfl (by decide) rfl zn2_59 (fun _ h => h) rfl  (x := 1109) (by decide) (t_zd6_ok 0 (by decide)) rfl rfl d_Statement_init_8 (fun H locs hw => ?_)
  exact zk_vret G hw hr hlocks hQ d_Statement_init_11
def zk_f_Statement_init_88 (σ : zs_S) : zs_S := (zs_wr σ 88 0 1109)
set_option maxHeartbeats 8000000 in
set_option maxRecDepth 100000 in
theorem zk_Statement_init_88 {l : Launch} {D : va_G} {cA : Nat → ClassId} {ad : Nat → Nat} {A : Nat → Prop} {b : Nat} {σ : zs_S} (hJ : zs_J ad) (had : ∀ o, 1 ≤ o → o ≤ zd_M 2 → ad o = b + (o - 1)) (hA : ∀ q, b ≤ q → A q) : Met l y_Statement_init (.code y_Statement_init prog_8_method_1_code 1 none :: zd_ww) { frames := 1, cells := 0, slots := 0, locals := 30 } (va_Pc [.ref (ad 88)] (zk_U 2 D cA ad A b 88 σ)) (zk_Q 2 D cA ad A b 88 (zk_f_Statement_init_88 σ)) 0 0 A := by
  refine Met.ofW (cc := prog_8_method_1_code) (maxL := 1) (ret := none) (by decide) rfl ?_
  intro p e s m args below meth c s₁ B hml hv
  obtain ⟨hargs, hP, hK, hD, hZ, hz, hd, hO⟩ := hv
  have G : zk_G 2 p s m args c prog_8_method_1_code 1 "ScheduleCheck$Statement" D cA ad A b := ⟨⟨B.exec, B.bytes, hml, findClass_of_methodNamed B.named, fun w h => atoms_spec B.pre w (List.mem_cons_of_mem _ h)⟩, hK, hJ, hZ, had, hA, hO⟩
  have hw : zk_I 2 D cA ad A s b 88 σ s.heap [] := ⟨hP, hD, va_S.rf, hz, hd⟩
  have hx := G.1.1
  have hb := G.1.2.1
  have hown := G.1.2.2.2.1
  have hts := G.1.2.2.2.2
  have hr := B.returns
  have hlocks := B.notSynchronized
  have hin : meth.name = "<init>" := (name_of_methodNamed B.named B.method).1
  have he : entryFrame m args 1 = F0 m 0 ((lg_sl [.ref (ad 88)] ++ List.replicate (1 - (lg_sl [.ref (ad 88)]).length) Slot.unset).toArray) [] := by rw [hargs]; exact lg_entry_eq m _ 1
  have hl := lv_entry [.ref (ad 88)] (n := 1) (Nat.le_of_ble_eq_true rfl)
  rw [he]
  generalize (lg_sl [.ref (ad 88)] ++ List.replicate (1 - (lg_sl [.ref (ad 88)]).length) Slot.unset).toArray = ls at hl
  have hl : lv_has ls 1 [(0, .ref (ad 88))] := hl
  obtain ⟨RR, hR⟩ : ∃ z, z = (headSpec (.code y_Statement_init prog_8_method_1_code 1 none :: zd_ww) { frames := 1, cells := 0, slots := 0, locals := 30 }).room := ⟨_, rfl⟩
  rw [← hR]
  obtain ⟨QQ, hQ⟩ : ∃ z, z = MQ below (zk_Q 2 D cA ad A b 88 (zk_f_Statement_init_88 σ)) args s 0 0 A := ⟨_, rfl⟩
  rw [← hQ]
  have hR1 : 1 ≤ RR.frames := by rw [hR]; exact Nat.le_refl _
  have hR2 : 30 ≤ RR.locals := by rw [hR]; exact Nat.le_refl _
  have hR3 : 0 ≤ RR.cells := by rw [hR]; exact Nat.le_refl _
  have hR4 : 0 ≤ RR.slots := by rw [hR]; exact Nat.le_refl _
  generalize s.heap = H at hw ⊢
  generalize ([] : List Loc) = locs at hw ⊢
  refine lv_aload_n hx hb d_Statement_init_0 rfl (lv_at hl 0 rfl) ?_
  refine W.objInit hx hb hown (hts _ zn2_57) (hts _ zn2_1) (hts _ zn2_2) rfl (by rw [hml]; exact hl.1) rfl d_Statement_init_1 (Nat.le_trans (by decide) hR1) (Nat.le_trans (Nat.le_of_ble_eq_true rfl) hR2) ?_
  refine W.eq (g2 := F0 m 4 ls []) rfl ?_
  refine lv_aload_n hx hb d_Statement_init_4 rfl (lv_at hl 0 rfl) ?_
  refine va_gets (C := "ScheduleCheck$Kind") (n := "STOP") (d := "LScheduleCheck$Kind;") (v := .ref (ad 1109)) hx hb ((G.2.2.2.1.1 rfl).2.2.1.1 9 (by decide)).1 hw.2.2.1 hown (hts _ zn2_58) (fun _ h => h) d_Statement_init_5 ?_
  refine zk_putr (ci := 6) G hw 88 0 (by decide) (by decide) zi_6 t_zd6 t_zd6_ok n_zd6 rfl rfl rfl (by decide) rfl zn2_59 (fun _ h => h) rfl  (x := 1109) (by decide) (t_zd6_ok 0 (by decide)) rfl rfl d_Statement_init_8 (fun H locs hw => ?_)
  exact zk_vret G hw hr hlocks hQ d_Statement_init_11
def zk_f_Statement_init_89 (σ : zs_S) : zs_S := (zs_wr σ 89 0 1109)
set_option maxHeartbeats 8000000 in
set_option maxRecDepth 100000 in
theorem zk_Statement_init_89 {l : Launch} {D : va_G} {cA : Nat → ClassId} {ad : Nat → Nat} {A : Nat → Prop} {b : Nat} {σ : zs_S} (hJ : zs_J ad) (had : ∀ o, 1 ≤ o → o ≤ zd_M 2 → ad o = b + (o - 1)) (hA : ∀ q, b ≤ q → A q) : Met l y_Statement_init (.code y_Statement_init prog_8_method_1_code 1 none :: zd_ww) { frames := 1, cells := 0, slots := 0, locals := 30 } (va_Pc [.ref (ad 89)] (zk_U 2 D cA ad A b 89 σ)) (zk_Q 2 D cA ad A b 89 (zk_f_Statement_init_89 σ)) 0 0 A := by
  refine Met.ofW (cc := prog_8_method_1_code) (maxL := 1) (ret := none) (by decide) rfl ?_
  intro p e s m args below meth c s₁ B hml hv
  obtain ⟨hargs, hP, hK, hD, hZ, hz, hd, hO⟩ := hv
  have G : zk_G 2 p s m args c prog_8_method_1_code 1 "ScheduleCheck$Statement" D cA ad A b := ⟨⟨B.exec, B.bytes, hml, findClass_of_methodNamed B.named, fun w h => atoms_spec B.pre w (List.mem_cons_of_mem _ h)⟩, hK, hJ, hZ, had, hA, hO⟩
  have hw : zk_I 2 D cA ad A s b 89 σ s.heap [] := ⟨hP, hD, va_S.rf, hz, hd⟩
  have hx := G.1.1
  have hb := G.1.2.1
  have hown := G.1.2.2.2.1
  have hts := G.1.2.2.2.2
  have hr := B.returns
  have hlocks := B.notSynchronized
  have hin : meth.name = "<init>" := (name_of_methodNamed B.named B.method).1
  have he : entryFrame m args 1 = F0 m 0 ((lg_sl [.ref (ad 89)] ++ List.replicate (1 - (lg_sl [.ref (ad 89)]).length) Slot.unset).toArray) [] := by rw [hargs]; exact lg_entry_eq m _ 1
  have hl := lv_entry [.ref (ad 89)] (n := 1) (Nat.le_of_ble_eq_true rfl)
  rw [he]
  generalize (lg_sl [.ref (ad 89)] ++ List.replicate (1 - (lg_sl [.ref (ad 89)]).length) Slot.unset).toArray = ls at hl
  have hl : lv_has ls 1 [(0, .ref (ad 89))] := hl
  obtain ⟨RR, hR⟩ : ∃ z, z = (headSpec (.code y_Statement_init prog_8_method_1_code 1 none :: zd_ww) { frames := 1, cells := 0, slots := 0, locals := 30 }).room := ⟨_, rfl⟩
  rw [← hR]
  obtain ⟨QQ, hQ⟩ : ∃ z, z = MQ below (zk_Q 2 D cA ad A b 89 (zk_f_Statement_init_89 σ)) args s 0 0 A := ⟨_, rfl⟩
  rw [← hQ]
  have hR1 : 1 ≤ RR.frames := by rw [hR]; exact Nat.le_refl _
  have hR2 : 30 ≤ RR.locals := by rw [hR]; exact Nat.le_refl _
  have hR3 : 0 ≤ RR.cells := by rw [hR]; exact Nat.le_refl _
  have hR4 : 0 ≤ RR.slots := by rw [hR]; exact Nat.le_refl _
  generalize s.heap = H at hw ⊢
  generalize ([] : List Loc) = locs at hw ⊢
  refine lv_aload_n hx hb d_Statement_init_0 rfl (lv_at hl 0 rfl) ?_
  refine W.objInit hx hb hown (hts _ zn2_57) (hts _ zn2_1) (hts _ zn2_2) rfl (by rw [hml]; exact hl.1) rfl d_Statement_init_1 (Nat.le_trans (by decide) hR1) (Nat.le_trans (Nat.le_of_ble_eq_true rfl) hR2) ?_
  refine W.eq (g2 := F0 m 4 ls []) rfl ?_
  refine lv_aload_n hx hb d_Statement_init_4 rfl (lv_at hl 0 rfl) ?_
  refine va_gets (C := "ScheduleCheck$Kind") (n := "STOP") (d := "LScheduleCheck$Kind;") (v := .ref (ad 1109)) hx hb ((G.2.2.2.1.1 rfl).2.2.1.1 9 (by decide)).1 hw.2.2.1 hown (hts _ zn2_58) (fun _ h => h) d_Statement_init_5 ?_
  refine zk_putr (ci := 6) G hw 89 0 (by decide) (by decide) zi_6 t_zd6 t_zd6_ok n_zd6 rfl rfl rfl (by decide) rfl zn2_59 (fun _ h => h) rfl  (x := 1109) (by decide) (t_zd6_ok 0 (by decide)) rfl rfl d_Statement_init_8 (fun H locs hw => ?_)
  exact zk_vret G hw hr hlocks hQ d_Statement_init_11
def zk_f_Statement_init_90 (σ : zs_S) : zs_S := (zs_wr σ 90 0 1109)
set_option maxHeartbeats 8000000 in
set_option maxRecDepth 100000 in
theorem zk_Statement_init_90 {l : Launch} {D : va_G} {cA : Nat → ClassId} {ad : Nat → Nat} {A : Nat → Prop} {b : Nat} {σ : zs_S} (hJ : zs_J ad) (had : ∀ o, 1 ≤ o → o ≤ zd_M 2 → ad o = b + (o - 1)) (hA : ∀ q, b ≤ q → A q) : Met l y_Statement_init (.code y_Statement_init prog_8_method_1_code 1 none :: zd_ww) { frames := 1, cells := 0, slots := 0, locals := 30 } (va_Pc [.ref (ad 90)] (zk_U 2 D cA ad A b 90 σ)) (zk_Q 2 D cA ad A b 90 (zk_f_Statement_init_90 σ)) 0 0 A := by
  refine Met.ofW (cc := prog_8_method_1_code) (maxL := 1) (ret := none) (by decide) rfl ?_
  intro p e s m args below meth c s₁ B hml hv
  obtain ⟨hargs, hP, hK, hD, hZ, hz, hd, hO⟩ := hv
  have G : zk_G 2 p s m args c prog_8_method_1_code 1 "ScheduleCheck$Statement" D cA ad A b := ⟨⟨B.exec, B.bytes, hml, findClass_of_methodNamed B.named, fun w h => atoms_spec B.pre w (List.mem_cons_of_mem _ h)⟩, hK, hJ, hZ, had, hA, hO⟩
  have hw : zk_I 2 D cA ad A s b 90 σ s.heap [] := ⟨hP, hD, va_S.rf, hz, hd⟩
  have hx := G.1.1
  have hb := G.1.2.1
  have hown := G.1.2.2.2.1
  have hts := G.1.2.2.2.2
  have hr := B.returns
  have hlocks := B.notSynchronized
  have hin : meth.name = "<init>" := (name_of_methodNamed B.named B.method).1
  have he : entryFrame m args 1 = F0 m 0 ((lg_sl [.ref (ad 90)] ++ List.replicate (1 - (lg_sl [.ref (ad 90)]).length) Slot.unset).toArray) [] := by rw [hargs]; exact lg_entry_eq m _ 1
  have hl := lv_entry [.ref (ad 90)] (n := 1) (Nat.le_of_ble_eq_true rfl)
  rw [he]
  generalize (lg_sl [.ref (ad 90)] ++ List.replicate (1 - (lg_sl [.ref (ad 90)]).length) Slot.unset).toArray = ls at hl
  have hl : lv_has ls 1 [(0, .ref (ad 90))] := hl
  obtain ⟨RR, hR⟩ : ∃ z, z = (headSpec (.code y_Statement_init prog_8_method_1_code 1 none :: zd_ww) { frames := 1, cells := 0, slots := 0, locals := 30 }).room := ⟨_, rfl⟩
  rw [← hR]
  obtain ⟨QQ, hQ⟩ : ∃ z, z = MQ below (zk_Q 2 D cA ad A b 90 (zk_f_Statement_init_90 σ)) args s 0 0 A := ⟨_, rfl⟩
  rw [← hQ]
  have hR1 : 1 ≤ RR.frames := by rw [hR]; exact Nat.le_refl _
  have hR2 : 30 ≤ RR.locals := by rw [hR]; exact Nat.le_refl _
  have hR3 : 0 ≤ RR.cells := by rw [hR]; exact Nat.le_refl _
  have hR4 : 0 ≤ RR.slots := by rw [hR]; exact Nat.le_refl _
  generalize s.heap = H at hw ⊢
  generalize ([] : List Loc) = locs at hw ⊢
  refine lv_aload_n hx hb d_Statement_init_0 rfl (lv_at hl 0 rfl) ?_
  refine W.objInit hx hb hown (hts _ zn2_57) (hts _ zn2_1) (hts _ zn2_2) rfl (by rw [hml]; exact hl.1) rfl d_Statement_init_1 (Nat.le_trans (by decide) hR1) (Nat.le_trans (Nat.le_of_ble_eq_true rfl) hR2) ?_
  refine W.eq (g2 := F0 m 4 ls []) rfl ?_
  refine lv_aload_n hx hb d_Statement_init_4 rfl (lv_at hl 0 rfl) ?_
  refine va_gets (C := "ScheduleCheck$Kind") (n := "STOP") (d := "LScheduleCheck$Kind;") (v := .ref (ad 1109)) hx hb ((G.2.2.2.1.1 rfl).2.2.1.1 9 (by decide)).1 hw.2.2.1 hown (hts _ zn2_58) (fun _ h => h) d_Statement_init_5 ?_
  refine zk_putr (ci := 6) G hw 90 0 (by decide) (by decide) zi_6 t_zd6 t_zd6_ok n_zd6 rfl rfl rfl (by decide) rfl zn2_59 (fun _ h => h) rfl  (x := 1109) (by decide) (t_zd6_ok 0 (by decide)) rfl rfl d_Statement_init_8 (fun H locs hw => ?_)
  exact zk_vret G hw hr hlocks hQ d_Statement_init_11
def zk_f_Statement_init_91 (σ : zs_S) : zs_S := (zs_wr σ 91 0 1109)
set_option maxHeartbeats 8000000 in
set_option maxRecDepth 100000 in
theorem zk_Statement_init_91 {l : Launch} {D : va_G} {cA : Nat → ClassId} {ad : Nat → Nat} {A : Nat → Prop} {b : Nat} {σ : zs_S} (hJ : zs_J ad) (had : ∀ o, 1 ≤ o → o ≤ zd_M 2 → ad o = b + (o - 1)) (hA : ∀ q, b ≤ q → A q) : Met l y_Statement_init (.code y_Statement_init prog_8_method_1_code 1 none :: zd_ww) { frames := 1, cells := 0, slots := 0, locals := 30 } (va_Pc [.ref (ad 91)] (zk_U 2 D cA ad A b 91 σ)) (zk_Q 2 D cA ad A b 91 (zk_f_Statement_init_91 σ)) 0 0 A := by
  refine Met.ofW (cc := prog_8_method_1_code) (maxL := 1) (ret := none) (by decide) rfl ?_
  intro p e s m args below meth c s₁ B hml hv
  obtain ⟨hargs, hP, hK, hD, hZ, hz, hd, hO⟩ := hv
  have G : zk_G 2 p s m args c prog_8_method_1_code 1 "ScheduleCheck$Statement" D cA ad A b := ⟨⟨B.exec, B.bytes, hml, findClass_of_methodNamed B.named, fun w h => atoms_spec B.pre w (List.mem_cons_of_mem _ h)⟩, hK, hJ, hZ, had, hA, hO⟩
  have hw : zk_I 2 D cA ad A s b 91 σ s.heap [] := ⟨hP, hD, va_S.rf, hz, hd⟩
  have hx := G.1.1
  have hb := G.1.2.1
  have hown := G.1.2.2.2.1
  have hts := G.1.2.2.2.2
  have hr := B.returns
  have hlocks := B.notSynchronized
  have hin : meth.name = "<init>" := (name_of_methodNamed B.named B.method).1
  have he : entryFrame m args 1 = F0 m 0 ((lg_sl [.ref (ad 91)] ++ List.replicate (1 - (lg_sl [.ref (ad 91)]).length) Slot.unset).toArray) [] := by rw [hargs]; exact lg_entry_eq m _ 1
  have hl := lv_entry [.ref (ad 91)] (n := 1) (Nat.le_of_ble_eq_true rfl)
  rw [he]
  generalize (lg_sl [.ref (ad 91)] ++ List.replicate (1 - (lg_sl [.ref (ad 91)]).length) Slot.unset).toArray = ls at hl
  have hl : lv_has ls 1 [(0, .ref (ad 91))] := hl
  obtain ⟨RR, hR⟩ : ∃ z, z = (headSpec (.code y_Statement_init prog_8_method_1_code 1 none :: zd_ww) { frames := 1, cells := 0, slots := 0, locals := 30 }).room := ⟨_, rfl⟩
  rw [← hR]
  obtain ⟨QQ, hQ⟩ : ∃ z, z = MQ below (zk_Q 2 D cA ad A b 91 (zk_f_Statement_init_91 σ)) args s 0 0 A := ⟨_, rfl⟩
  rw [← hQ]
  have hR1 : 1 ≤ RR.frames := by rw [hR]; exact Nat.le_refl _
  have hR2 : 30 ≤ RR.locals := by rw [hR]; exact Nat.le_refl _
  have hR3 : 0 ≤ RR.cells := by rw [hR]; exact Nat.le_refl _
  have hR4 : 0 ≤ RR.slots := by rw [hR]; exact Nat.le_refl _
  generalize s.heap = H at hw ⊢
  generalize ([] : List Loc) = locs at hw ⊢
  refine lv_aload_n hx hb d_Statement_init_0 rfl (lv_at hl 0 rfl) ?_
  refine W.objInit hx hb hown (hts _ zn2_57) (hts _ zn2_1) (hts _ zn2_2) rfl (by rw [hml]; exact hl.1) rfl d_Statement_init_1 (Nat.le_trans (by decide) hR1) (Nat.le_trans (Nat.le_of_ble_eq_true rfl) hR2) ?_
  refine W.eq (g2 := F0 m 4 ls []) rfl ?_
  refine lv_aload_n hx hb d_Statement_init_4 rfl (lv_at hl 0 rfl) ?_
  refine va_gets (C := "ScheduleCheck$Kind") (n := "STOP") (d := "LScheduleCheck$Kind;") (v := .ref (ad 1109)) hx hb ((G.2.2.2.1.1 rfl).2.2.1.1 9 (by decide)).1 hw.2.2.1 hown (hts _ zn2_58) (fun _ h => h) d_Statement_init_5 ?_
  refine zk_putr (ci := 6) G hw 91 0 (by decide) (by decide) zi_6 t_zd6 t_zd6_ok n_zd6 rfl rfl rfl (by decide) rfl zn2_59 (fun _ h => h) rfl  (x := 1109) (by decide) (t_zd6_ok 0 (by decide)) rfl rfl d_Statement_init_8 (fun H locs hw => ?_)
  exact zk_vret G hw hr hlocks hQ d_Statement_init_11
def zk_f_Statement_init_92 (σ : zs_S) : zs_S := (zs_wr σ 92 0 1109)
set_option maxHeartbeats 8000000 in
set_option maxRecDepth 100000 in
theorem zk_Statement_init_92 {l : Launch} {D : va_G} {cA : Nat → ClassId} {ad : Nat → Nat} {A : Nat → Prop} {b : Nat} {σ : zs_S} (hJ : zs_J ad) (had : ∀ o, 1 ≤ o → o ≤ zd_M 2 → ad o = b + (o - 1)) (hA : ∀ q, b ≤ q → A q) : Met l y_Statement_init (.code y_Statement_init prog_8_method_1_code 1 none :: zd_ww) { frames := 1, cells := 0, slots := 0, locals := 30 } (va_Pc [.ref (ad 92)] (zk_U 2 D cA ad A b 92 σ)) (zk_Q 2 D cA ad A b 92 (zk_f_Statement_init_92 σ)) 0 0 A := by
  refine Met.ofW (cc := prog_8_method_1_code) (maxL := 1) (ret := none) (by decide) rfl ?_
  intro p e s m args below meth c s₁ B hml hv
  obtain ⟨hargs, hP, hK, hD, hZ, hz, hd, hO⟩ := hv
  have G : zk_G 2 p s m args c prog_8_method_1_code 1 "ScheduleCheck$Statement" D cA ad A b := ⟨⟨B.exec, B.bytes, hml, findClass_of_methodNamed B.named, fun w h => atoms_spec B.pre w (List.mem_cons_of_mem _ h)⟩, hK, hJ, hZ, had, hA, hO⟩
  have hw : zk_I 2 D cA ad A s b 92 σ s.heap [] := ⟨hP, hD, va_S.rf, hz, hd⟩
  have hx := G.1.1
  have hb := G.1.2.1
  have hown := G.1.2.2.2.1
  have hts := G.1.2.2.2.2
  have hr := B.returns
  have hlocks := B.notSynchronized
  have hin : meth.name = "<init>" := (name_of_methodNamed B.named B.method).1
  have he : entryFrame m args 1 = F0 m 0 ((lg_sl [.ref (ad 92)] ++ List.replicate (1 - (lg_sl [.ref (ad 92)]).length) Slot.unset).toArray) [] := by rw [hargs]; exact lg_entry_eq m _ 1
  have hl := lv_entry [.ref (ad 92)] (n := 1) (Nat.le_of_ble_eq_true rfl)
  rw [he]
  generalize (lg_sl [.ref (ad 92)] ++ List.replicate (1 - (lg_sl [.ref (ad 92)]).length) Slot.unset).toArray = ls at hl
  have hl : lv_has ls 1 [(0, .ref (ad 92))] := hl
  obtain ⟨RR, hR⟩ : ∃ z, z = (headSpec (.code y_Statement_init prog_8_method_1_code 1 none :: zd_ww) { frames := 1, cells := 0, slots := 0, locals := 30 }).room := ⟨_, rfl⟩
  rw [← hR]
  obtain ⟨QQ, hQ⟩ : ∃ z, z = MQ below (zk_Q 2 D cA ad A b 92 (zk_f_Statement_init_92 σ)) args s 0 0 A := ⟨_, rfl⟩
  rw [← hQ]
  have hR1 : 1 ≤ RR.frames := by rw [hR]; exact Nat.le_refl _
  have hR2 : 30 ≤ RR.locals := by rw [hR]; exact Nat.le_refl _
  have hR3 : 0 ≤ RR.cells := by rw [hR]; exact Nat.le_refl _
  have hR4 : 0 ≤ RR.slots := by rw [hR]; exact Nat.le_refl _
  generalize s.heap = H at hw ⊢
  generalize ([] : List Loc) = locs at hw ⊢
  refine lv_aload_n hx hb d_Statement_init_0 rfl (lv_at hl 0 rfl) ?_
  refine W.objInit hx hb hown (hts _ zn2_57) (hts _ zn2_1) (hts _ zn2_2) rfl (by rw [hml]; exact hl.1) rfl d_Statement_init_1 (Nat.le_trans (by decide) hR1) (Nat.le_trans (Nat.le_of_ble_eq_true rfl) hR2) ?_
  refine W.eq (g2 := F0 m 4 ls []) rfl ?_
  refine lv_aload_n hx hb d_Statement_init_4 rfl (lv_at hl 0 rfl) ?_
  refine va_gets (C := "ScheduleCheck$Kind") (n := "STOP") (d := "LScheduleCheck$Kind;") (v := .ref (ad 1109)) hx hb ((G.2.2.2.1.1 rfl).2.2.1.1 9 (by decide)).1 hw.2.2.1 hown (hts _ zn2_58) (fun _ h => h) d_Statement_init_5 ?_
  refine zk_putr (ci := 6) G hw 92 0 (by decide) (by decide) zi_6 t_zd6 t_zd6_ok n_zd6 rfl rfl rfl (by decide) rfl zn2_59 (fun _ h => h) rfl  (x := 1109) (by decide) (t_zd6_ok 0 (by decide)) rfl rfl d_Statement_init_8 (fun H locs hw => ?_)
  exact zk_vret G hw hr hlocks hQ d_Statement_init_11
def zk_f_Statement_init_93 (σ : zs_S) : zs_S := (zs_wr σ 93 0 1109)
set_option maxHeartbeats 8000000 in
set_option maxRecDepth 100000 in
theorem zk_Statement_init_93 {l : Launch} {D : va_G} {cA : Nat → ClassId} {ad : Nat → Nat} {A : Nat → Prop} {b : Nat} {σ : zs_S} (hJ : zs_J ad) (had : ∀ o, 1 ≤ o → o ≤ zd_M 2 → ad o = b + (o - 1)) (hA : ∀ q, b ≤ q → A q) : Met l y_Statement_init (.code y_Statement_init prog_8_method_1_code 1 none :: zd_ww) { frames := 1, cells := 0, slots := 0, locals := 30 } (va_Pc [.ref (ad 93)] (zk_U 2 D cA ad A b 93 σ)) (zk_Q 2 D cA ad A b 93 (zk_f_Statement_init_93 σ)) 0 0 A := by
  refine Met.ofW (cc := prog_8_method_1_code) (maxL := 1) (ret := none) (by decide) rfl ?_
  intro p e s m args below meth c s₁ B hml hv
  obtain ⟨hargs, hP, hK, hD, hZ, hz, hd, hO⟩ := hv
  have G : zk_G 2 p s m args c prog_8_method_1_code 1 "ScheduleCheck$Statement" D cA ad A b := ⟨⟨B.exec, B.bytes, hml, findClass_of_methodNamed B.named, fun w h => atoms_spec B.pre w (List.mem_cons_of_mem _ h)⟩, hK, hJ, hZ, had, hA, hO⟩
  have hw : zk_I 2 D cA ad A s b 93 σ s.heap [] := ⟨hP, hD, va_S.rf, hz, hd⟩
  have hx := G.1.1
  have hb := G.1.2.1
  have hown := G.1.2.2.2.1
  have hts := G.1.2.2.2.2
  have hr := B.returns
  have hlocks := B.notSynchronized
  have hin : meth.name = "<init>" := (name_of_methodNamed B.named B.method).1
  have he : entryFrame m args 1 = F0 m 0 ((lg_sl [.ref (ad 93)] ++ List.replicate (1 - (lg_sl [.ref (ad 93)]).length) Slot.unset).toArray) [] := by rw [hargs]; exact lg_entry_eq m _ 1
  have hl := lv_entry [.ref (ad 93)] (n := 1) (Nat.le_of_ble_eq_true rfl)
  rw [he]
  generalize (lg_sl [.ref (ad 93)] ++ List.replicate (1 - (lg_sl [.ref (ad 93)]).length) Slot.unset).toArray = ls at hl
  have hl : lv_has ls 1 [(0, .ref (ad 93))] := hl
  obtain ⟨RR, hR⟩ : ∃ z, z = (headSpec (.code y_Statement_init prog_8_method_1_code 1 none :: zd_ww) { frames := 1, cells := 0, slots := 0, locals := 30 }).room := ⟨_, rfl⟩
  rw [← hR]
  obtain ⟨QQ, hQ⟩ : ∃ z, z = MQ below (zk_Q 2 D cA ad A b 93 (zk_f_Statement_init_93 σ)) args s 0 0 A := ⟨_, rfl⟩
  rw [← hQ]
  have hR1 : 1 ≤ RR.frames := by rw [hR]; exact Nat.le_refl _
  have hR2 : 30 ≤ RR.locals := by rw [hR]; exact Nat.le_refl _
  have hR3 : 0 ≤ RR.cells := by rw [hR]; exact Nat.le_refl _
  have hR4 : 0 ≤ RR.slots := by rw [hR]; exact Nat.le_refl _
  generalize s.heap = H at hw ⊢
  generalize ([] : List Loc) = locs at hw ⊢
  refine lv_aload_n hx hb d_Statement_init_0 rfl (lv_at hl 0 rfl) ?_
  refine W.objInit hx hb hown (hts _ zn2_57) (hts _ zn2_1) (hts _ zn2_2) rfl (by rw [hml]; exact hl.1) rfl d_Statement_init_1 (Nat.le_trans (by decide) hR1) (Nat.le_trans (Nat.le_of_ble_eq_true rfl) hR2) ?_
  refine W.eq (g2 := F0 m 4 ls []) rfl ?_
  refine lv_aload_n hx hb d_Statement_init_4 rfl (lv_at hl 0 rfl) ?_
  refine va_gets (C := "ScheduleCheck$Kind") (n := "STOP") (d := "LScheduleCheck$Kind;") (v := .ref (ad 1109)) hx hb ((G.2.2.2.1.1 rfl).2.2.1.1 9 (by decide)).1 hw.2.2.1 hown (hts _ zn2_58) (fun _ h => h) d_Statement_init_5 ?_
  refine zk_putr (ci := 6) G hw 93 0 (by decide) (by decide) zi_6 t_zd6 t_zd6_ok n_zd6 rfl rfl rfl (by decide) rfl zn2_59 (fun _ h => h) rfl  (x := 1109) (by decide) (t_zd6_ok 0 (by decide)) rfl rfl d_Statement_init_8 (fun H locs hw => ?_)
  exact zk_vret G hw hr hlocks hQ d_Statement_init_11
def zk_f_Statement_init_94 (σ : zs_S) : zs_S := (zs_wr σ 94 0 1109)
set_option maxHeartbeats 8000000 in
set_option maxRecDepth 100000 in
theorem zk_Statement_init_94 {l : Launch} {D : va_G} {cA : Nat → ClassId} {ad : Nat → Nat} {A : Nat → Prop} {b : Nat} {σ : zs_S} (hJ : zs_J ad) (had : ∀ o, 1 ≤ o → o ≤ zd_M 2 → ad o = b + (o - 1)) (hA : ∀ q, b ≤ q → A q) : Met l y_Statement_init (.code y_Statement_init prog_8_method_1_code 1 none :: zd_ww) { frames := 1, cells := 0, slots := 0, locals := 30 } (va_Pc [.ref (ad 94)] (zk_U 2 D cA ad A b 94 σ)) (zk_Q 2 D cA ad A b 94 (zk_f_Statement_init_94 σ)) 0 0 A := by
  refine Met.ofW (cc := prog_8_method_1_code) (maxL := 1) (ret := none) (by decide) rfl ?_
  intro p e s m args below meth c s₁ B hml hv
  obtain ⟨hargs, hP, hK, hD, hZ, hz, hd, hO⟩ := hv
  have G : zk_G 2 p s m args c prog_8_method_1_code 1 "ScheduleCheck$Statement" D cA ad A b := ⟨⟨B.exec, B.bytes, hml, findClass_of_methodNamed B.named, fun w h => atoms_spec B.pre w (List.mem_cons_of_mem _ h)⟩, hK, hJ, hZ, had, hA, hO⟩
  have hw : zk_I 2 D cA ad A s b 94 σ s.heap [] := ⟨hP, hD, va_S.rf, hz, hd⟩
  have hx := G.1.1
  have hb := G.1.2.1
  have hown := G.1.2.2.2.1
  have hts := G.1.2.2.2.2
  have hr := B.returns
  have hlocks := B.notSynchronized
  have hin : meth.name = "<init>" := (name_of_methodNamed B.named B.method).1
  have he : entryFrame m args 1 = F0 m 0 ((lg_sl [.ref (ad 94)] ++ List.replicate (1 - (lg_sl [.ref (ad 94)]).length) Slot.unset).toArray) [] := by rw [hargs]; exact lg_entry_eq m _ 1
  have hl := lv_entry [.ref (ad 94)] (n := 1) (Nat.le_of_ble_eq_true rfl)
  rw [he]
  generalize (lg_sl [.ref (ad 94)] ++ List.replicate (1 - (lg_sl [.ref (ad 94)]).length) Slot.unset).toArray = ls at hl
  have hl : lv_has ls 1 [(0, .ref (ad 94))] := hl
  obtain ⟨RR, hR⟩ : ∃ z, z = (headSpec (.code y_Statement_init prog_8_method_1_code 1 none :: zd_ww) { frames := 1, cells := 0, slots := 0, locals := 30 }).room := ⟨_, rfl⟩
  rw [← hR]
  obtain ⟨QQ, hQ⟩ : ∃ z, z = MQ below (zk_Q 2 D cA ad A b 94 (zk_f_Statement_init_94 σ)) args s 0 0 A := ⟨_, rfl⟩
  rw [← hQ]
  have hR1 : 1 ≤ RR.frames := by rw [hR]; exact Nat.le_refl _
  have hR2 : 30 ≤ RR.locals := by rw [hR]; exact Nat.le_refl _
  have hR3 : 0 ≤ RR.cells := by rw [hR]; exact Nat.le_refl _
  have hR4 : 0 ≤ RR.slots := by rw [hR]; exact Nat.le_refl _
  generalize s.heap = H at hw ⊢
  generalize ([] : List Loc) = locs at hw ⊢
  refine lv_aload_n hx hb d_Statement_init_0 rfl (lv_at hl 0 rfl) ?_
  refine W.objInit hx hb hown (hts _ zn2_57) (hts _ zn2_1) (hts _ zn2_2) rfl (by rw [hml]; exact hl.1) rfl d_Statement_init_1 (Nat.le_trans (by decide) hR1) (Nat.le_trans (Nat.le_of_ble_eq_true rfl) hR2) ?_
  refine W.eq (g2 := F0 m 4 ls []) rfl ?_
  refine lv_aload_n hx hb d_Statement_init_4 rfl (lv_at hl 0 rfl) ?_
  refine va_gets (C := "ScheduleCheck$Kind") (n := "STOP") (d := "LScheduleCheck$Kind;") (v := .ref (ad 1109)) hx hb ((G.2.2.2.1.1 rfl).2.2.1.1 9 (by decide)).1 hw.2.2.1 hown (hts _ zn2_58) (fun _ h => h) d_Statement_init_5 ?_
  refine zk_putr (ci := 6) G hw 94 0 (by decide) (by decide) zi_6 t_zd6 t_zd6_ok n_zd6 rfl rfl rfl (by decide) rfl zn2_59 (fun _ h => h) rfl  (x := 1109) (by decide) (t_zd6_ok 0 (by decide)) rfl rfl d_Statement_init_8 (fun H locs hw => ?_)
  exact zk_vret G hw hr hlocks hQ d_Statement_init_11
def zk_f_Statement_init_95 (σ : zs_S) : zs_S := (zs_wr σ 95 0 1109)
set_option maxHeartbeats 8000000 in
set_option maxRecDepth 100000 in
theorem zk_Statement_init_95 {l : Launch} {D : va_G} {cA : Nat → ClassId} {ad : Nat → Nat} {A : Nat → Prop} {b : Nat} {σ : zs_S} (hJ : zs_J ad) (had : ∀ o, 1 ≤ o → o ≤ zd_M 2 → ad o = b + (o - 1)) (hA : ∀ q, b ≤ q → A q) : Met l y_Statement_init (.code y_Statement_init prog_8_method_1_code 1 none :: zd_ww) { frames := 1, cells := 0, slots := 0, locals := 30 } (va_Pc [.ref (ad 95)] (zk_U 2 D cA ad A b 95 σ)) (zk_Q 2 D cA ad A b 95 (zk_f_Statement_init_95 σ)) 0 0 A := by
  refine Met.ofW (cc := prog_8_method_1_code) (maxL := 1) (ret := none) (by decide) rfl ?_
  intro p e s m args below meth c s₁ B hml hv
  obtain ⟨hargs, hP, hK, hD, hZ, hz, hd, hO⟩ := hv
  have G : zk_G 2 p s m args c prog_8_method_1_code 1 "ScheduleCheck$Statement" D cA ad A b := ⟨⟨B.exec, B.bytes, hml, findClass_of_methodNamed B.named, fun w h => atoms_spec B.pre w (List.mem_cons_of_mem _ h)⟩, hK, hJ, hZ, had, hA, hO⟩
  have hw : zk_I 2 D cA ad A s b 95 σ s.heap [] := ⟨hP, hD, va_S.rf, hz, hd⟩
  have hx := G.1.1
  have hb := G.1.2.1
  have hown := G.1.2.2.2.1
  have hts := G.1.2.2.2.2
  have hr := B.returns
  have hlocks := B.notSynchronized
  have hin : meth.name = "<init>" := (name_of_methodNamed B.named B.method).1
  have he : entryFrame m args 1 = F0 m 0 ((lg_sl [.ref (ad 95)] ++ List.replicate (1 - (lg_sl [.ref (ad 95)]).length) Slot.unset).toArray) [] := by rw [hargs]; exact lg_entry_eq m _ 1
  have hl := lv_entry [.ref (ad 95)] (n := 1) (Nat.le_of_ble_eq_true rfl)
  rw [he]
  generalize (lg_sl [.ref (ad 95)] ++ List.replicate (1 - (lg_sl [.ref (ad 95)]).length) Slot.unset).toArray = ls at hl
  have hl : lv_has ls 1 [(0, .ref (ad 95))] := hl
  obtain ⟨RR, hR⟩ : ∃ z, z = (headSpec (.code y_Statement_init prog_8_method_1_code 1 none :: zd_ww) { frames := 1, cells := 0, slots := 0, locals := 30 }).room := ⟨_, rfl⟩
  rw [← hR]
  obtain ⟨QQ, hQ⟩ : ∃ z, z = MQ below (zk_Q 2 D cA ad A b 95 (zk_f_Statement_init_95 σ)) args s 0 0 A := ⟨_, rfl⟩
  rw [← hQ]
  have hR1 : 1 ≤ RR.frames := by rw [hR]; exact Nat.le_refl _
  have hR2 : 30 ≤ RR.locals := by rw [hR]; exact Nat.le_refl _
  have hR3 : 0 ≤ RR.cells := by rw [hR]; exact Nat.le_refl _
  have hR4 : 0 ≤ RR.slots := by rw [hR]; exact Nat.le_refl _
  generalize s.heap = H at hw ⊢
  generalize ([] : List Loc) = locs at hw ⊢
  refine lv_aload_n hx hb d_Statement_init_0 rfl (lv_at hl 0 rfl) ?_
  refine W.objInit hx hb hown (hts _ zn2_57) (hts _ zn2_1) (hts _ zn2_2) rfl (by rw [hml]; exact hl.1) rfl d_Statement_init_1 (Nat.le_trans (by decide) hR1) (Nat.le_trans (Nat.le_of_ble_eq_true rfl) hR2) ?_
  refine W.eq (g2 := F0 m 4 ls []) rfl ?_
  refine lv_aload_n hx hb d_Statement_init_4 rfl (lv_at hl 0 rfl) ?_
  refine va_gets (C := "ScheduleCheck$Kind") (n := "STOP") (d := "LScheduleCheck$Kind;") (v := .ref (ad 1109)) hx hb ((G.2.2.2.1.1 rfl).2.2.1.1 9 (by decide)).1 hw.2.2.1 hown (hts _ zn2_58) (fun _ h => h) d_Statement_init_5 ?_
  refine zk_putr (ci := 6) G hw 95 0 (by decide) (by decide) zi_6 t_zd6 t_zd6_ok n_zd6 rfl rfl rfl (by decide) rfl zn2_59 (fun _ h => h) rfl  (x := 1109) (by decide) (t_zd6_ok 0 (by decide)) rfl rfl d_Statement_init_8 (fun H locs hw => ?_)
  exact zk_vret G hw hr hlocks hQ d_Statement_init_11
def zk_f_Statement_init_96 (σ : zs_S) : zs_S := (zs_wr σ 96 0 1109)
set_option maxHeartbeats 8000000 in
set_option maxRecDepth 100000 in
theorem zk_Statement_init_96 {l : Launch} {D : va_G} {cA : Nat → ClassId} {ad : Nat → Nat} {A : Nat → Prop} {b : Nat} {σ : zs_S} (hJ : zs_J ad) (had : ∀ o, 1 ≤ o → o ≤ zd_M 2 → ad o = b + (o - 1)) (hA : ∀ q, b ≤ q → A q) : Met l y_Statement_init (.code y_Statement_init prog_8_method_1_code 1 none :: zd_ww) { frames := 1, cells := 0, slots := 0, locals := 30 } (va_Pc [.ref (ad 96)] (zk_U 2 D cA ad A b 96 σ)) (zk_Q 2 D cA ad A b 96 (zk_f_Statement_init_96 σ)) 0 0 A := by
  refine Met.ofW (cc := prog_8_method_1_code) (maxL := 1) (ret := none) (by decide) rfl ?_
  intro p e s m args below meth c s₁ B hml hv
  obtain ⟨hargs, hP, hK, hD, hZ, hz, hd, hO⟩ := hv
  have G : zk_G 2 p s m args c prog_8_method_1_code 1 "ScheduleCheck$Statement" D cA ad A b := ⟨⟨B.exec, B.bytes, hml, findClass_of_methodNamed B.named, fun w h => atoms_spec B.pre w (List.mem_cons_of_mem _ h)⟩, hK, hJ, hZ, had, hA, hO⟩
  have hw : zk_I 2 D cA ad A s b 96 σ s.heap [] := ⟨hP, hD, va_S.rf, hz, hd⟩
  have hx := G.1.1
  have hb := G.1.2.1
  have hown := G.1.2.2.2.1
  have hts := G.1.2.2.2.2
  have hr := B.returns
  have hlocks := B.notSynchronized
  have hin : meth.name = "<init>" := (name_of_methodNamed B.named B.method).1
  have he : entryFrame m args 1 = F0 m 0 ((lg_sl [.ref (ad 96)] ++ List.replicate (1 - (lg_sl [.ref (ad 96)]).length) Slot.unset).toArray) [] := by rw [hargs]; exact lg_entry_eq m _ 1
  have hl := lv_entry [.ref (ad 96)] (n := 1) (Nat.le_of_ble_eq_true rfl)
  rw [he]
  generalize (lg_sl [.ref (ad 96)] ++ List.replicate (1 - (lg_sl [.ref (ad 96)]).length) Slot.unset).toArray = ls at hl
  have hl : lv_has ls 1 [(0, .ref (ad 96))] := hl
  obtain ⟨RR, hR⟩ : ∃ z, z = (headSpec (.code y_Statement_init prog_8_method_1_code 1 none :: zd_ww) { frames := 1, cells := 0, slots := 0, locals := 30 }).room := ⟨_, rfl⟩
  rw [← hR]
  obtain ⟨QQ, hQ⟩ : ∃ z, z = MQ below (zk_Q 2 D cA ad A b 96 (zk_f_Statement_init_96 σ)) args s 0 0 A := ⟨_, rfl⟩
  rw [← hQ]
  have hR1 : 1 ≤ RR.frames := by rw [hR]; exact Nat.le_refl _
  have hR2 : 30 ≤ RR.locals := by rw [hR]; exact Nat.le_refl _
  have hR3 : 0 ≤ RR.cells := by rw [hR]; exact Nat.le_refl _
  have hR4 : 0 ≤ RR.slots := by rw [hR]; exact Nat.le_refl _
  generalize s.heap = H at hw ⊢
  generalize ([] : List Loc) = locs at hw ⊢
  refine lv_aload_n hx hb d_Statement_init_0 rfl (lv_at hl 0 rfl) ?_
  refine W.objInit hx hb hown (hts _ zn2_57) (hts _ zn2_1) (hts _ zn2_2) rfl (by rw [hml]; exact hl.1) rfl d_Statement_init_1 (Nat.le_trans (by decide) hR1) (Nat.le_trans (Nat.le_of_ble_eq_true rfl) hR2) ?_
  refine W.eq (g2 := F0 m 4 ls []) rfl ?_
  refine lv_aload_n hx hb d_Statement_init_4 rfl (lv_at hl 0 rfl) ?_
  refine va_gets (C := "ScheduleCheck$Kind") (n := "STOP") (d := "LScheduleCheck$Kind;") (v := .ref (ad 1109)) hx hb ((G.2.2.2.1.1 rfl).2.2.1.1 9 (by decide)).1 hw.2.2.1 hown (hts _ zn2_58) (fun _ h => h) d_Statement_init_5 ?_
  refine zk_putr (ci := 6) G hw 96 0 (by decide) (by decide) zi_6 t_zd6 t_zd6_ok n_zd6 rfl rfl rfl (by decide) rfl zn2_59 (fun _ h => h) rfl  (x := 1109) (by decide) (t_zd6_ok 0 (by decide)) rfl rfl d_Statement_init_8 (fun H locs hw => ?_)
  exact zk_vret G hw hr hlocks hQ d_Statement_init_11
def zk_f_Statement_init_97 (σ : zs_S) : zs_S := (zs_wr σ 97 0 1109)
set_option maxHeartbeats 8000000 in
set_option maxRecDepth 100000 in
theorem zk_Statement_init_97 {l : Launch} {D : va_G} {cA : Nat → ClassId} {ad : Nat → Nat} {A : Nat → Prop} {b : Nat} {σ : zs_S} (hJ : zs_J ad) (had : ∀ o, 1 ≤ o → o ≤ zd_M 2 → ad o = b + (o - 1)) (hA : ∀ q, b ≤ q → A q) : Met l y_Statement_init (.code y_Statement_init prog_8_method_1_code 1 none :: zd_ww) { frames := 1, cells := 0, slots := 0, locals := 30 } (va_Pc [.ref (ad 97)] (zk_U 2 D cA ad A b 97 σ)) (zk_Q 2 D cA ad A b 97 (zk_f_Statement_init_97 σ)) 0 0 A := by
  refine Met.ofW (cc := prog_8_method_1_code) (maxL := 1) (ret := none) (by decide) rfl ?_
  intro p e s m args below meth c s₁ B hml hv
  obtain ⟨hargs, hP, hK, hD, hZ, hz, hd, hO⟩ := hv
  have G : zk_G 2 p s m args c prog_8_method_1_code 1 "ScheduleCheck$Statement" D cA ad A b := ⟨⟨B.exec, B.bytes, hml, findClass_of_methodNamed B.named, fun w h => atoms_spec B.pre w (List.mem_cons_of_mem _ h)⟩, hK, hJ, hZ, had, hA, hO⟩
  have hw : zk_I 2 D cA ad A s b 97 σ s.heap [] := ⟨hP, hD, va_S.rf, hz, hd⟩
  have hx := G.1.1
  have hb := G.1.2.1
  have hown := G.1.2.2.2.1
  have hts := G.1.2.2.2.2
  have hr := B.returns
  have hlocks := B.notSynchronized
  have hin : meth.name = "<init>" := (name_of_methodNamed B.named B.method).1
  have he : entryFrame m args 1 = F0 m 0 ((lg_sl [.ref (ad 97)] ++ List.replicate (1 - (lg_sl [.ref (ad 97)]).length) Slot.unset).toArray) [] := by rw [hargs]; exact lg_entry_eq m _ 1
  have hl := lv_entry [.ref (ad 97)] (n := 1) (Nat.le_of_ble_eq_true rfl)
  rw [he]
  generalize (lg_sl [.ref (ad 97)] ++ List.replicate (1 - (lg_sl [.ref (ad 97)]).length) Slot.unset).toArray = ls at hl
  have hl : lv_has ls 1 [(0, .ref (ad 97))] := hl
  obtain ⟨RR, hR⟩ : ∃ z, z = (headSpec (.code y_Statement_init prog_8_method_1_code 1 none :: zd_ww) { frames := 1, cells := 0, slots := 0, locals := 30 }).room := ⟨_, rfl⟩
  rw [← hR]
  obtain ⟨QQ, hQ⟩ : ∃ z, z = MQ below (zk_Q 2 D cA ad A b 97 (zk_f_Statement_init_97 σ)) args s 0 0 A := ⟨_, rfl⟩
  rw [← hQ]
  have hR1 : 1 ≤ RR.frames := by rw [hR]; exact Nat.le_refl _
  have hR2 : 30 ≤ RR.locals := by rw [hR]; exact Nat.le_refl _
  have hR3 : 0 ≤ RR.cells := by rw [hR]; exact Nat.le_refl _
  have hR4 : 0 ≤ RR.slots := by rw [hR]; exact Nat.le_refl _
  generalize s.heap = H at hw ⊢
  generalize ([] : List Loc) = locs at hw ⊢
  refine lv_aload_n hx hb d_Statement_init_0 rfl (lv_at hl 0 rfl) ?_
  refine W.objInit hx hb hown (hts _ zn2_57) (hts _ zn2_1) (hts _ zn2_2) rfl (by rw [hml]; exact hl.1) rfl d_Statement_init_1 (Nat.le_trans (by decide) hR1) (Nat.le_trans (Nat.le_of_ble_eq_true rfl) hR2) ?_
  refine W.eq (g2 := F0 m 4 ls []) rfl ?_
  refine lv_aload_n hx hb d_Statement_init_4 rfl (lv_at hl 0 rfl) ?_
  refine va_gets (C := "ScheduleCheck$Kind") (n := "STOP") (d := "LScheduleCheck$Kind;") (v := .ref (ad 1109)) hx hb ((G.2.2.2.1.1 rfl).2.2.1.1 9 (by decide)).1 hw.2.2.1 hown (hts _ zn2_58) (fun _ h => h) d_Statement_init_5 ?_
  refine zk_putr (ci := 6) G hw 97 0 (by decide) (by decide) zi_6 t_zd6 t_zd6_ok n_zd6 rfl rfl rfl (by decide) rfl zn2_59 (fun _ h => h) rfl  (x := 1109) (by decide) (t_zd6_ok 0 (by decide)) rfl rfl d_Statement_init_8 (fun H locs hw => ?_)
  exact zk_vret G hw hr hlocks hQ d_Statement_init_11
def zk_f_Statement_init_98 (σ : zs_S) : zs_S := (zs_wr σ 98 0 1109)
set_option maxHeartbeats 8000000 in
set_option maxRecDepth 100000 in
theorem zk_Statement_init_98 {l : Launch} {D : va_G} {cA : Nat → ClassId} {ad : Nat → Nat} {A : Nat → Prop} {b : Nat} {σ : zs_S} (hJ : zs_J ad) (had : ∀ o, 1 ≤ o → o ≤ zd_M 2 → ad o = b + (o - 1)) (hA : ∀ q, b ≤ q → A q) : Met l y_Statement_init (.code y_Statement_init prog_8_method_1_code 1 none :: zd_ww) { frames := 1, cells := 0, slots := 0, locals := 30 } (va_Pc [.ref (ad 98)] (zk_U 2 D cA ad A b 98 σ)) (zk_Q 2 D cA ad A b 98 (zk_f_Statement_init_98 σ)) 0 0 A := by
  refine Met.ofW (cc := prog_8_method_1_code) (maxL := 1) (ret := none) (by decide) rfl ?_
  intro p e s m args below meth c s₁ B hml hv
  obtain ⟨hargs, hP, hK, hD, hZ, hz, hd, hO⟩ := hv
  have G : zk_G 2 p s m args c prog_8_method_1_code 1 "ScheduleCheck$Statement" D cA ad A b := ⟨⟨B.exec, B.bytes, hml, findClass_of_methodNamed B.named, fun w h => atoms_spec B.pre w (List.mem_cons_of_mem _ h)⟩, hK, hJ, hZ, had, hA, hO⟩
  have hw : zk_I 2 D cA ad A s b 98 σ s.heap [] := ⟨hP, hD, va_S.rf, hz, hd⟩
  have hx := G.1.1
  have hb := G.1.2.1
  have hown := G.1.2.2.2.1
  have hts := G.1.2.2.2.2
  have hr := B.returns
  have hlocks := B.notSynchronized
  have hin : meth.name = "<init>" := (name_of_methodNamed B.named B.method).1
  have he : entryFrame m args 1 = F0 m 0 ((lg_sl [.ref (ad 98)] ++ List.replicate (1 - (lg_sl [.ref (ad 98)]).length) Slot.unset).toArray) [] := by rw [hargs]; exact lg_entry_eq m _ 1
  have hl := lv_entry [.ref (ad 98)] (n := 1) (Nat.le_of_ble_eq_true rfl)
  rw [he]
  generalize (lg_sl [.ref (ad 98)] ++ List.replicate (1 - (lg_sl [.ref (ad 98)]).length) Slot.unset).toArray = ls at hl
  have hl : lv_has ls 1 [(0, .ref (ad 98))] := hl
  obtain ⟨RR, hR⟩ : ∃ z, z = (headSpec (.code y_Statement_init prog_8_method_1_code 1 none :: zd_ww) { frames := 1, cells := 0, slots := 0, locals := 30 }).room := ⟨_, rfl⟩
  rw [← hR]
  obtain ⟨QQ, hQ⟩ : ∃ z, z = MQ below (zk_Q 2 D cA ad A b 98 (zk_f_Statement_init_98 σ)) args s 0 0 A := ⟨_, rfl⟩
  rw [← hQ]
  have hR1 : 1 ≤ RR.frames := by rw [hR]; exact Nat.le_refl _
  have hR2 : 30 ≤ RR.locals := by rw [hR]; exact Nat.le_refl _
  have hR3 : 0 ≤ RR.cells := by rw [hR]; exact Nat.le_refl _
  have hR4 : 0 ≤ RR.slots := by rw [hR]; exact Nat.le_refl _
  generalize s.heap = H at hw ⊢
  generalize ([] : List Loc) = locs at hw ⊢
  refine lv_aload_n hx hb d_Statement_init_0 rfl (lv_at hl 0 rfl) ?_
  refine W.objInit hx hb hown (hts _ zn2_57) (hts _ zn2_1) (hts _ zn2_2) rfl (by rw [hml]; exact hl.1) rfl d_Statement_init_1 (Nat.le_trans (by decide) hR1) (Nat.le_trans (Nat.le_of_ble_eq_true rfl) hR2) ?_
  refine W.eq (g2 := F0 m 4 ls []) rfl ?_
  refine lv_aload_n hx hb d_Statement_init_4 rfl (lv_at hl 0 rfl) ?_
  refine va_gets (C := "ScheduleCheck$Kind") (n := "STOP") (d := "LScheduleCheck$Kind;") (v := .ref (ad 1109)) hx hb ((G.2.2.2.1.1 rfl).2.2.1.1 9 (by decide)).1 hw.2.2.1 hown (hts _ zn2_58) (fun _ h => h) d_Statement_init_5 ?_
  refine zk_putr (ci := 6) G hw 98 0 (by decide) (by decide) zi_6 t_zd6 t_zd6_ok n_zd6 rfl rfl rfl (by decide) rfl zn2_59 (fun _ h => h) rfl  (x := 1109) (by decide) (t_zd6_ok 0 (by decide)) rfl rfl d_Statement_init_8 (fun H locs hw => ?_)
  exact zk_vret G hw hr hlocks hQ d_Statement_init_11
def zk_f_Statement_init_99 (σ : zs_S) : zs_S := (zs_wr σ 99 0 1109)
set_option maxHeartbeats 8000000 in
set_option maxRecDepth 100000 in
theorem zk_Statement_init_99 {l : Launch} {D : va_G} {cA : Nat → ClassId} {ad : Nat → Nat} {A : Nat → Prop} {b : Nat} {σ : zs_S} (hJ : zs_J ad) (had : ∀ o, 1 ≤ o → o ≤ zd_M 2 → ad o = b + (o - 1)) (hA : ∀ q, b ≤ q → A q) : Met l y_Statement_init (.code y_Statement_init prog_8_method_1_code 1 none :: zd_ww) { frames := 1, cells := 0, slots := 0, locals := 30 } (va_Pc [.ref (ad 99)] (zk_U 2 D cA ad A b 99 σ)) (zk_Q 2 D cA ad A b 99 (zk_f_Statement_init_99 σ)) 0 0 A := by
  refine Met.ofW (cc := prog_8_method_1_code) (maxL := 1) (ret := none) (by decide) rfl ?_
  intro p e s m args below meth c s₁ B hml hv
  obtain ⟨hargs, hP, hK, hD, hZ, hz, hd, hO⟩ := hv
  have G : zk_G 2 p s m args c prog_8_method_1_code 1 "ScheduleCheck$Statement" D cA ad A b := ⟨⟨B.exec, B.bytes, hml, findClass_of_methodNamed B.named, fun w h => atoms_spec B.pre w (List.mem_cons_of_mem _ h)⟩, hK, hJ, hZ, had, hA, hO⟩
  have hw : zk_I 2 D cA ad A s b 99 σ s.heap [] := ⟨hP, hD, va_S.rf, hz, hd⟩
  have hx := G.1.1
  have hb := G.1.2.1
  have hown := G.1.2.2.2.1
  have hts := G.1.2.2.2.2
  have hr := B.returns
  have hlocks := B.notSynchronized
  have hin : meth.name = "<init>" := (name_of_methodNamed B.named B.method).1
  have he : entryFrame m args 1 = F0 m 0 ((lg_sl [.ref (ad 99)] ++ List.replicate (1 - (lg_sl [.ref (ad 99)]).length) Slot.unset).toArray) [] := by rw [hargs]; exact lg_entry_eq m _ 1
  have hl := lv_entry [.ref (ad 99)] (n := 1) (Nat.le_of_ble_eq_true rfl)
  rw [he]
  generalize (lg_sl [.ref (ad 99)] ++ List.replicate (1 - (lg_sl [.ref (ad 99)]).length) Slot.unset).toArray = ls at hl
  have hl : lv_has ls 1 [(0, .ref (ad 99))] := hl
  obtain ⟨RR, hR⟩ : ∃ z, z = (headSpec (.code y_Statement_init prog_8_method_1_code 1 none :: zd_ww) { frames := 1, cells := 0, slots := 0, locals := 30 }).room := ⟨_, rfl⟩
  rw [← hR]
  obtain ⟨QQ, hQ⟩ : ∃ z, z = MQ below (zk_Q 2 D cA ad A b 99 (zk_f_Statement_init_99 σ)) args s 0 0 A := ⟨_, rfl⟩
  rw [← hQ]
  have hR1 : 1 ≤ RR.frames := by rw [hR]; exact Nat.le_refl _
  have hR2 : 30 ≤ RR.locals := by rw [hR]; exact Nat.le_refl _
  have hR3 : 0 ≤ RR.cells := by rw [hR]; exact Nat.le_refl _
  have hR4 : 0 ≤ RR.slots := by rw [hR]; exact Nat.le_refl _
  generalize s.heap = H at hw ⊢
  generalize ([] : List Loc) = locs at hw ⊢
  refine lv_aload_n hx hb d_Statement_init_0 rfl (lv_at hl 0 rfl) ?_
  refine W.objInit hx hb hown (hts _ zn2_57) (hts _ zn2_1) (hts _ zn2_2) rfl (by rw [hml]; exact hl.1) rfl d_Statement_init_1 (Nat.le_trans (by decide) hR1) (Nat.le_trans (Nat.le_of_ble_eq_true rfl) hR2) ?_
  refine W.eq (g2 := F0 m 4 ls []) rfl ?_
  refine lv_aload_n hx hb d_Statement_init_4 rfl (lv_at hl 0 rfl) ?_
  refine va_gets (C := "ScheduleCheck$Kind") (n := "STOP") (d := "LScheduleCheck$Kind;") (v := .ref (ad 1109)) hx hb ((G.2.2.2.1.1 rfl).2.2.1.1 9 (by decide)).1 hw.2.2.1 hown (hts _ zn2_58) (fun _ h => h) d_Statement_init_5 ?_
  refine zk_putr (ci := 6) G hw 99 0 (by decide) (by decide) zi_6 t_zd6 t_zd6_ok n_zd6 rfl rfl rfl (by decide) rfl zn2_59 (fun _ h => h) rfl  (x := 1109) (by decide) (t_zd6_ok 0 (by decide)) rfl rfl d_Statement_init_8 (fun H locs hw => ?_)
  exact zk_vret G hw hr hlocks hQ d_Statement_init_11
def zk_f_Statement_init_100 (σ : zs_S) : zs_S := (zs_wr σ 100 0 1109)
set_option maxHeartbeats 8000000 in
set_option maxRecDepth 100000 in
theorem zk_Statement_init_100 {l : Launch} {D : va_G} {cA : Nat → ClassId} {ad : Nat → Nat} {A : Nat → Prop} {b : Nat} {σ : zs_S} (hJ : zs_J ad) (had : ∀ o, 1 ≤ o → o ≤ zd_M 2 → ad o = b + (o - 1)) (hA : ∀ q, b ≤ q → A q) : Met l y_Statement_init (.code y_Statement_init prog_8_method_1_code 1 none :: zd_ww) { frames := 1, cells := 0, slots := 0, locals := 30 } (va_Pc [.ref (ad 100)] (zk_U 2 D cA ad A b 100 σ)) (zk_Q 2 D cA ad A b 100 (zk_f_Statement_init_100 σ)) 0 0 A := by
  refine Met.ofW (cc := prog_8_method_1_code) (maxL := 1) (ret := none) (by decide) rfl ?_
  intro p e s m args below meth c s₁ B hml hv
  obtain ⟨hargs, hP, hK, hD, hZ, hz, hd, hO⟩ := hv
  have G : zk_G 2 p s m args c prog_8_method_1_code 1 "ScheduleCheck$Statement" D cA ad A b := ⟨⟨B.exec, B.bytes, hml, findClass_of_methodNamed B.named, fun w h => atoms_spec B.pre w (List.mem_cons_of_mem _ h)⟩, hK, hJ, hZ, had, hA, hO⟩
  have hw : zk_I 2 D cA ad A s b 100 σ s.heap [] := ⟨hP, hD, va_S.rf, hz, hd⟩
  have hx := G.1.1
  have hb := G.1.2.1
  have hown := G.1.2.2.2.1
  have hts := G.1.2.2.2.2
  have hr := B.returns
  have hlocks := B.notSynchronized
  have hin : meth.name = "<init>" := (name_of_methodNamed B.named B.method).1
  have he : entryFrame m args 1 = F0 m 0 ((lg_sl [.ref (ad 100)] ++ List.replicate (1 - (lg_sl [.ref (ad 100)]).length) Slot.unset).toArray) [] := by rw [hargs]; exact lg_entry_eq m _ 1
  have hl := lv_entry [.ref (ad 100)] (n := 1) (Nat.le_of_ble_eq_true rfl)
  rw [he]
  generalize (lg_sl [.ref (ad 100)] ++ List.replicate (1 - (lg_sl [.ref (ad 100)]).length) Slot.unset).toArray = ls at hl
  have hl : lv_has ls 1 [(0, .ref (ad 100))] := hl
  obtain ⟨RR, hR⟩ : ∃ z, z = (headSpec (.code y_Statement_init prog_8_method_1_code 1 none :: zd_ww) { frames := 1, cells := 0, slots := 0, locals := 30 }).room := ⟨_, rfl⟩
  rw [← hR]
  obtain ⟨QQ, hQ⟩ : ∃ z, z = MQ below (zk_Q 2 D cA ad A b 100 (zk_f_Statement_init_100 σ)) args s 0 0 A := ⟨_, rfl⟩
  rw [← hQ]
  have hR1 : 1 ≤ RR.frames := by rw [hR]; exact Nat.le_refl _
  have hR2 : 30 ≤ RR.locals := by rw [hR]; exact Nat.le_refl _
  have hR3 : 0 ≤ RR.cells := by rw [hR]; exact Nat.le_refl _
  have hR4 : 0 ≤ RR.slots := by rw [hR]; exact Nat.le_refl _
  generalize s.heap = H at hw ⊢
  generalize ([] : List Loc) = locs at hw ⊢
  refine lv_aload_n hx hb d_Statement_init_0 rfl (lv_at hl 0 rfl) ?_
  refine W.objInit hx hb hown (hts _ zn2_57) (hts _ zn2_1) (hts _ zn2_2) rfl (by rw [hml]; exact hl.1) rfl d_Statement_init_1 (Nat.le_trans (by decide) hR1) (Nat.le_trans (Nat.le_of_ble_eq_true rfl) hR2) ?_
  refine W.eq (g2 := F0 m 4 ls []) rfl ?_
  refine lv_aload_n hx hb d_Statement_init_4 rfl (lv_at hl 0 rfl) ?_
  refine va_gets (C := "ScheduleCheck$Kind") (n := "STOP") (d := "LScheduleCheck$Kind;") (v := .ref (ad 1109)) hx hb ((G.2.2.2.1.1 rfl).2.2.1.1 9 (by decide)).1 hw.2.2.1 hown (hts _ zn2_58) (fun _ h => h) d_Statement_init_5 ?_
  refine zk_putr (ci := 6) G hw 100 0 (by decide) (by decide) zi_6 t_zd6 t_zd6_ok n_zd6 rfl rfl rfl (by decide) rfl zn2_59 (fun _ h => h) rfl  (x := 1109) (by decide) (t_zd6_ok 0 (by decide)) rfl rfl d_Statement_init_8 (fun H locs hw => ?_)
  exact zk_vret G hw hr hlocks hQ d_Statement_init_11
def zk_f_Statement_init_101 (σ : zs_S) : zs_S := (zs_wr σ 101 0 1109)
set_option maxHeartbeats 8000000 in
set_option maxRecDepth 100000 in
theorem zk_Statement_init_101 {l : Launch} {D : va_G} {cA : Nat → ClassId} {ad : Nat → Nat} {A : Nat → Prop} {b : Nat} {σ : zs_S} (hJ : zs_J ad) (had : ∀ o, 1 ≤ o → o ≤ zd_M 2 → ad o = b + (o - 1)) (hA : ∀ q, b ≤ q → A q) : Met l y_Statement_init (.code y_Statement_init prog_8_method_1_code 1 none :: zd_ww) { frames := 1, cells := 0, slots := 0, locals := 30 } (va_Pc [.ref (ad 101)] (zk_U 2 D cA ad A b 101 σ)) (zk_Q 2 D cA ad A b 101 (zk_f_Statement_init_101 σ)) 0 0 A := by
  refine Met.ofW (cc := prog_8_method_1_code) (maxL := 1) (ret := none) (by decide) rfl ?_
  intro p e s m args below meth c s₁ B hml hv
  obtain ⟨hargs, hP, hK, hD, hZ, hz, hd, hO⟩ := hv
  have G : zk_G 2 p s m args c prog_8_method_1_code 1 "ScheduleCheck$Statement" D cA ad A b := ⟨⟨B.exec, B.bytes, hml, findClass_of_methodNamed B.named, fun w h => atoms_spec B.pre w (List.mem_cons_of_mem _ h)⟩, hK, hJ, hZ, had, hA, hO⟩
  have hw : zk_I 2 D cA ad A s b 101 σ s.heap [] := ⟨hP, hD, va_S.rf, hz, hd⟩
  have hx := G.1.1
  have hb := G.1.2.1
  have hown := G.1.2.2.2.1
  have hts := G.1.2.2.2.2
  have hr := B.returns
  have hlocks := B.notSynchronized
  have hin : meth.name = "<init>" := (name_of_methodNamed B.named B.method).1
  have he : entryFrame m args 1 = F0 m 0 ((lg_sl [.ref (ad 101)] ++ List.replicate (1 - (lg_sl [.ref (ad 101)]).length) Slot.unset).toArray) [] := by rw [hargs]; exact lg_entry_eq m _ 1
  have hl := lv_entry [.ref (ad 101)] (n := 1) (Nat.le_of_ble_eq_true rfl)
  rw [he]
  generalize (lg_sl [.ref (ad 101)] ++ List.replicate (1 - (lg_sl [.ref (ad 101)]).length) Slot.unset).toArray = ls at hl
  have hl : lv_has ls 1 [(0, .ref (ad 101))] := hl
  obtain ⟨RR, hR⟩ : ∃ z, z = (headSpec (.code y_Statement_init prog_8_method_1_code 1 none :: zd_ww) { frames := 1, cells := 0, slots := 0, locals := 30 }).room := ⟨_, rfl⟩
  rw [← hR]
  obtain ⟨QQ, hQ⟩ : ∃ z, z = MQ below (zk_Q 2 D cA ad A b 101 (zk_f_Statement_init_101 σ)) args s 0 0 A := ⟨_, rfl⟩
  rw [← hQ]
  have hR1 : 1 ≤ RR.frames := by rw [hR]; exact Nat.le_refl _
  have hR2 : 30 ≤ RR.locals := by rw [hR]; exact Nat.le_refl _
  have hR3 : 0 ≤ RR.cells := by rw [hR]; exact Nat.le_refl _
  have hR4 : 0 ≤ RR.slots := by rw [hR]; exact Nat.le_refl _
  generalize s.heap = H at hw ⊢
  generalize ([] : List Loc) = locs at hw ⊢
  refine lv_aload_n hx hb d_Statement_init_0 rfl (lv_at hl 0 rfl) ?_
  refine W.objInit hx hb hown (hts _ zn2_57) (hts _ zn2_1) (hts _ zn2_2) rfl (by rw [hml]; exact hl.1) rfl d_Statement_init_1 (Nat.le_trans (by decide) hR1) (Nat.le_trans (Nat.le_of_ble_eq_true rfl) hR2) ?_
  refine W.eq (g2 := F0 m 4 ls []) rfl ?_
  refine lv_aload_n hx hb d_Statement_init_4 rfl (lv_at hl 0 rfl) ?_
  refine va_gets (C := "ScheduleCheck$Kind") (n := "STOP") (d := "LScheduleCheck$Kind;") (v := .ref (ad 1109)) hx hb ((G.2.2.2.1.1 rfl).2.2.1.1 9 (by decide)).1 hw.2.2.1 hown (hts _ zn2_58) (fun _ h => h) d_Statement_init_5 ?_
  refine zk_putr (ci := 6) G hw 101 0 (by decide) (by decide) zi_6 t_zd6 t_zd6_ok n_zd6 rfl rfl rfl (by decide) rfl zn2_59 (fun _ h => h) rfl  (x := 1109) (by decide) (t_zd6_ok 0 (by decide)) rfl rfl d_Statement_init_8 (fun H locs hw => ?_)
  exact zk_vret G hw hr hlocks hQ d_Statement_init_11
def zk_f_Statement_init_102 (σ : zs_S) : zs_S := (zs_wr σ 102 0 1109)
set_option maxHeartbeats 8000000 in
set_option maxRecDepth 100000 in
theorem zk_Statement_init_102 {l : Launch} {D : va_G} {cA : Nat → ClassId} {ad : Nat → Nat} {A : Nat → Prop} {b : Nat} {σ : zs_S} (hJ : zs_J ad) (had : ∀ o, 1 ≤ o → o ≤ zd_M 2 → ad o = b + (o - 1)) (hA : ∀ q, b ≤ q → A q) : Met l y_Statement_init (.code y_Statement_init prog_8_method_1_code 1 none :: zd_ww) { frames := 1, cells := 0, slots := 0, locals := 30 } (va_Pc [.ref (ad 102)] (zk_U 2 D cA ad A b 102 σ)) (zk_Q 2 D cA ad A b 102 (zk_f_Statement_init_102 σ)) 0 0 A := by
  refine Met.ofW (cc := prog_8_method_1_code) (maxL := 1) (ret := none) (by decide) rfl ?_
  intro p e s m args below meth c s₁ B hml hv
  obtain ⟨hargs, hP, hK, hD, hZ, hz, hd, hO⟩ := hv
  have G : zk_G 2 p s m args c prog_8_method_1_code 1 "ScheduleCheck$Statement" D cA ad A b := ⟨⟨B.exec, B.bytes, hml, findClass_of_methodNamed B.named, fun w h => atoms_spec B.pre w (List.mem_cons_of_mem _ h)⟩, hK, hJ, hZ, had, hA, hO⟩
  have hw : zk_I 2 D cA ad A s b 102 σ s.heap [] := ⟨hP, hD, va_S.rf, hz, hd⟩
  have hx := G.1.1
  have hb := G.1.2.1
  have hown := G.1.2.2.2.1
  have hts := G.1.2.2.2.2
  have hr := B.returns
  have hlocks := B.notSynchronized
  have hin : meth.name = "<init>" := (name_of_methodNamed B.named B.method).1
  have he : entryFrame m args 1 = F0 m 0 ((lg_sl [.ref (ad 102)] ++ List.replicate (1 - (lg_sl [.ref (ad 102)]).length) Slot.unset).toArray) [] := by rw [hargs]; exact lg_entry_eq m _ 1
  have hl := lv_entry [.ref (ad 102)] (n := 1) (Nat.le_of_ble_eq_true rfl)
  rw [he]
  generalize (lg_sl [.ref (ad 102)] ++ List.replicate (1 - (lg_sl [.ref (ad 102)]).length) Slot.unset).toArray = ls at hl
  have hl : lv_has ls 1 [(0, .ref (ad 102))] := hl
  obtain ⟨RR, hR⟩ : ∃ z, z = (headSpec (.code y_Statement_init prog_8_method_1_code 1 none :: zd_ww) { frames := 1, cells := 0, slots := 0, locals := 30 }).room := ⟨_, rfl⟩
  rw [← hR]
  obtain ⟨QQ, hQ⟩ : ∃ z, z = MQ below (zk_Q 2 D cA ad A b 102 (zk_f_Statement_init_102 σ)) args s 0 0 A := ⟨_, rfl⟩
  rw [← hQ]
  have hR1 : 1 ≤ RR.frames := by rw [hR]; exact Nat.le_refl _
  have hR2 : 30 ≤ RR.locals := by rw [hR]; exact Nat.le_refl _
  have hR3 : 0 ≤ RR.cells := by rw [hR]; exact Nat.le_refl _
  have hR4 : 0 ≤ RR.slots := by rw [hR]; exact Nat.le_refl _
  generalize s.heap = H at hw ⊢
  generalize ([] : List Loc) = locs at hw ⊢
  refine lv_aload_n hx hb d_Statement_init_0 rfl (lv_at hl 0 rfl) ?_
  refine W.objInit hx hb hown (hts _ zn2_57) (hts _ zn2_1) (hts _ zn2_2) rfl (by rw [hml]; exact hl.1) rfl d_Statement_init_1 (Nat.le_trans (by decide) hR1) (Nat.le_trans (Nat.le_of_ble_eq_true rfl) hR2) ?_
  refine W.eq (g2 := F0 m 4 ls []) rfl ?_
  refine lv_aload_n hx hb d_Statement_init_4 rfl (lv_at hl 0 rfl) ?_
  refine va_gets (C := "ScheduleCheck$Kind") (n := "STOP") (d := "LScheduleCheck$Kind;") (v := .ref (ad 1109)) hx hb ((G.2.2.2.1.1 rfl).2.2.1.1 9 (by decide)).1 hw.2.2.1 hown (hts _ zn2_58) (fun _ h => h) d_Statement_init_5 ?_
  refine zk_putr (ci := 6) G hw 102 0 (by decide) (by decide) zi_6 t_zd6 t_zd6_ok n_zd6 rfl rfl rfl (by decide) rfl zn2_59 (fun _ h => h) rfl  (x := 1109) (by decide) (t_zd6_ok 0 (by decide)) rfl rfl d_Statement_init_8 (fun H locs hw => ?_)
  exact zk_vret G hw hr hlocks hQ d_Statement_init_11
def zk_f_Statement_init_103 (σ : zs_S) : zs_S := (zs_wr σ 103 0 1109)
set_option maxHeartbeats 8000000 in
set_option maxRecDepth 100000 in
theorem zk_Statement_init_103 {l : Launch} {D : va_G} {cA : Nat → ClassId} {ad : Nat → Nat} {A : Nat → Prop} {b : Nat} {σ : zs_S} (hJ : zs_J ad) (had : ∀ o, 1 ≤ o → o ≤ zd_M 2 → ad o = b + (o - 1)) (hA : ∀ q, b ≤ q → A q) : Met l y_Statement_init (.code y_Statement_init prog_8_method_1_code 1 none :: zd_ww) { frames := 1, cells := 0, slots := 0, locals := 30 } (va_Pc [.ref (ad 103)] (zk_U 2 D cA ad A b 103 σ)) (zk_Q 2 D cA ad A b 103 (zk_f_Statement_init_103 σ)) 0 0 A := by
  refine Met.ofW (cc := prog_8_method_1_code) (maxL := 1) (ret := none) (by decide) rfl ?_
  intro p e s m args below meth c s₁ B hml hv
  obtain ⟨hargs, hP, hK, hD, hZ, hz, hd, hO⟩ := hv
  have G : zk_G 2 p s m args c prog_8_method_1_code 1 "ScheduleCheck$Statement" D cA ad A b := ⟨⟨B.exec, B.bytes, hml, findClass_of_methodNamed B.named, fun w h => atoms_spec B.pre w (List.mem_cons_of_mem _ h)⟩, hK, hJ, hZ, had, hA, hO⟩
  have hw : zk_I 2 D cA ad A s b 103 σ s.heap [] := ⟨hP, hD, va_S.rf, hz, hd⟩
  have hx := G.1.1
  have hb := G.1.2.1
  have hown := G.1.2.2.2.1
  have hts := G.1.2.2.2.2
  have hr := B.returns
  have hlocks := B.notSynchronized
  have hin : meth.name = "<init>" := (name_of_methodNamed B.named B.method).1
  have he : entryFrame m args 1 = F0 m 0 ((lg_sl [.ref (ad 103)] ++ List.replicate (1 - (lg_sl [.ref (ad 103)]).length) Slot.unset).toArray) [] := by rw [hargs]; exact lg_entry_eq m _ 1
  have hl := lv_entry [.ref (ad 103)] (n := 1) (Nat.le_of_ble_eq_true rfl)
  rw [he]
  generalize (lg_sl [.ref (ad 103)] ++ List.replicate (1 - (lg_sl [.ref (ad 103)]).length) Slot.unset).toArray = ls at hl
  have hl : lv_has ls 1 [(0, .ref (ad 103))] := hl
  obtain ⟨RR, hR⟩ : ∃ z, z = (headSpec (.code y_Statement_init prog_8_method_1_code 1 none :: zd_ww) { frames := 1, cells := 0, slots := 0, locals := 30 }).room := ⟨_, rfl⟩
  rw [← hR]
  obtain ⟨QQ, hQ⟩ : ∃ z, z = MQ below (zk_Q 2 D cA ad A b 103 (zk_f_Statement_init_103 σ)) args s 0 0 A := ⟨_, rfl⟩
  rw [← hQ]
  have hR1 : 1 ≤ RR.frames := by rw [hR]; exact Nat.le_refl _
  have hR2 : 30 ≤ RR.locals := by rw [hR]; exact Nat.le_refl _
  have hR3 : 0 ≤ RR.cells := by rw [hR]; exact Nat.le_refl _
  have hR4 : 0 ≤ RR.slots := by rw [hR]; exact Nat.le_refl _
  generalize s.heap = H at hw ⊢
  generalize ([] : List Loc) = locs at hw ⊢
  refine lv_aload_n hx hb d_Statement_init_0 rfl (lv_at hl 0 rfl) ?_
  refine W.objInit hx hb hown (hts _ zn2_57) (hts _ zn2_1) (hts _ zn2_2) rfl (by rw [hml]; exact hl.1) rfl d_Statement_init_1 (Nat.le_trans (by decide) hR1) (Nat.le_trans (Nat.le_of_ble_eq_true rfl) hR2) ?_
  refine W.eq (g2 := F0 m 4 ls []) rfl ?_
  refine lv_aload_n hx hb d_Statement_init_4 rfl (lv_at hl 0 rfl) ?_
  refine va_gets (C := "ScheduleCheck$Kind") (n := "STOP") (d := "LScheduleCheck$Kind;") (v := .ref (ad 1109)) hx hb ((G.2.2.2.1.1 rfl).2.2.1.1 9 (by decide)).1 hw.2.2.1 hown (hts _ zn2_58) (fun _ h => h) d_Statement_init_5 ?_
  refine zk_putr (ci := 6) G hw 103 0 (by decide) (by decide) zi_6 t_zd6 t_zd6_ok n_zd6 rfl rfl rfl (by decide) rfl zn2_59 (fun _ h => h) rfl  (x := 1109) (by decide) (t_zd6_ok 0 (by decide)) rfl rfl d_Statement_init_8 (fun H locs hw => ?_)
  exact zk_vret G hw hr hlocks hQ d_Statement_init_11
def zk_f_Statement_init_104 (σ : zs_S) : zs_S := (zs_wr σ 104 0 1109)
set_option maxHeartbeats 8000000 in
set_option maxRecDepth 100000 in
theorem zk_Statement_init_104 {l : Launch} {D : va_G} {cA : Nat → ClassId} {ad : Nat → Nat} {A : Nat → Prop} {b : Nat} {σ : zs_S} (hJ : zs_J ad) (had : ∀ o, 1 ≤ o → o ≤ zd_M 2 → ad o = b + (o - 1)) (hA : ∀ q, b ≤ q → A q) : Met l y_Statement_init (.code y_Statement_init prog_8_method_1_code 1 none :: zd_ww) { frames := 1, cells := 0, slots := 0, locals := 30 } (va_Pc [.ref (ad 104)] (zk_U 2 D cA ad A b 104 σ)) (zk_Q 2 D cA ad A b 104 (zk_f_Statement_init_104 σ)) 0 0 A := by
  refine Met.ofW (cc := prog_8_method_1_code) (maxL := 1) (ret := none) (by decide) rfl ?_
  intro p e s m args below meth c s₁ B hml hv
  obtain ⟨hargs, hP, hK, hD, hZ, hz, hd, hO⟩ := hv
  have G : zk_G 2 p s m args c prog_8_method_1_code 1 "ScheduleCheck$Statement" D cA ad A b := ⟨⟨B.exec, B.bytes, hml, findClass_of_methodNamed B.named, fun w h => atoms_spec B.pre w (List.mem_cons_of_mem _ h)⟩, hK, hJ, hZ, had, hA, hO⟩
  have hw : zk_I 2 D cA ad A s b 104 σ s.heap [] := ⟨hP, hD, va_S.rf, hz, hd⟩
  have hx := G.1.1
  have hb := G.1.2.1
  have hown := G.1.2.2.2.1
  have hts := G.1.2.2.2.2
  have hr := B.returns
  have hlocks := B.notSynchronized
  have hin : meth.name = "<init>" := (name_of_methodNamed B.named B.method).1
  have he : entryFrame m args 1 = F0 m 0 ((lg_sl [.ref (ad 104)] ++ List.replicate (1 - (lg_sl [.ref (ad 104)]).length) Slot.unset).toArray) [] := by rw [hargs]; exact lg_entry_eq m _ 1
  have hl := lv_entry [.ref (ad 104)] (n := 1) (Nat.le_of_ble_eq_true rfl)
  rw [he]
  generalize (lg_sl [.ref (ad 104)] ++ List.replicate (1 - (lg_sl [.ref (ad 104)]).length) Slot.unset).toArray = ls at hl
  have hl : lv_has ls 1 [(0, .ref (ad 104))] := hl
  obtain ⟨RR, hR⟩ : ∃ z, z = (headSpec (.code y_Statement_init prog_8_method_1_code 1 none :: zd_ww) { frames := 1, cells := 0, slots := 0, locals := 30 }).room := ⟨_, rfl⟩
  rw [← hR]
  obtain ⟨QQ, hQ⟩ : ∃ z, z = MQ below (zk_Q 2 D cA ad A b 104 (zk_f_Statement_init_104 σ)) args s 0 0 A := ⟨_, rfl⟩
  rw [← hQ]
  have hR1 : 1 ≤ RR.frames := by rw [hR]; exact Nat.le_refl _
  have hR2 : 30 ≤ RR.locals := by rw [hR]; exact Nat.le_refl _
  have hR3 : 0 ≤ RR.cells := by rw [hR]; exact Nat.le_refl _
  have hR4 : 0 ≤ RR.slots := by rw [hR]; exact Nat.le_refl _
  generalize s.heap = H at hw ⊢
  generalize ([] : List Loc) = locs at hw ⊢
  refine lv_aload_n hx hb d_Statement_init_0 rfl (lv_at hl 0 rfl) ?_
  refine W.objInit hx hb hown (hts _ zn2_57) (hts _ zn2_1) (hts _ zn2_2) rfl (by rw [hml]; exact hl.1) rfl d_Statement_init_1 (Nat.le_trans (by decide) hR1) (Nat.le_trans (Nat.le_of_ble_eq_true rfl) hR2) ?_
  refine W.eq (g2 := F0 m 4 ls []) rfl ?_
  refine lv_aload_n hx hb d_Statement_init_4 rfl (lv_at hl 0 rfl) ?_
  refine va_gets (C := "ScheduleCheck$Kind") (n := "STOP") (d := "LScheduleCheck$Kind;") (v := .ref (ad 1109)) hx hb ((G.2.2.2.1.1 rfl).2.2.1.1 9 (by decide)).1 hw.2.2.1 hown (hts _ zn2_58) (fun _ h => h) d_Statement_init_5 ?_
  refine zk_putr (ci := 6) G hw 104 0 (by decide) (by decide) zi_6 t_zd6 t_zd6_ok n_zd6 rfl rfl rfl (by decide) rfl zn2_59 (fun _ h => h) rfl  (x := 1109) (by decide) (t_zd6_ok 0 (by decide)) rfl rfl d_Statement_init_8 (fun H locs hw => ?_)
  exact zk_vret G hw hr hlocks hQ d_Statement_init_11
def zk_f_Statement_init_105 (σ : zs_S) : zs_S := (zs_wr σ 105 0 1109)
set_option maxHeartbeats 8000000 in
set_option maxRecDepth 100000 in
theorem zk_Statement_init_105 {l : Launch} {D : va_G} {cA : Nat → ClassId} {ad : Nat → Nat} {A : Nat → Prop} {b : Nat} {σ : zs_S} (hJ : zs_J ad) (had : ∀ o, 1 ≤ o → o ≤ zd_M 2 → ad o = b + (o - 1)) (hA : ∀ q, b ≤ q → A q) : Met l y_Statement_init (.code y_Statement_init prog_8_method_1_code 1 none :: zd_ww) { frames := 1, cells := 0, slots := 0, locals := 30 } (va_Pc [.ref (ad 105)] (zk_U 2 D cA ad A b 105 σ)) (zk_Q 2 D cA ad A b 105 (zk_f_Statement_init_105 σ)) 0 0 A := by
  refine Met.ofW (cc := prog_8_method_1_code) (maxL := 1) (ret := none) (by decide) rfl ?_
  intro p e s m args below meth c s₁ B hml hv
  obtain ⟨hargs, hP, hK, hD, hZ, hz, hd, hO⟩ := hv
  have G : zk_G 2 p s m args c prog_8_method_1_code 1 "ScheduleCheck$Statement" D cA ad A b := ⟨⟨B.exec, B.bytes, hml, findClass_of_methodNamed B.named, fun w h => atoms_spec B.pre w (List.mem_cons_of_mem _ h)⟩, hK, hJ, hZ, had, hA, hO⟩
  have hw : zk_I 2 D cA ad A s b 105 σ s.heap [] := ⟨hP, hD, va_S.rf, hz, hd⟩
  have hx := G.1.1
  have hb := G.1.2.1
  have hown := G.1.2.2.2.1
  have hts := G.1.2.2.2.2
  have hr := B.returns
  have hlocks := B.notSynchronized
  have hin : meth.name = "<init>" := (name_of_methodNamed B.named B.method).1
  have he : entryFrame m args 1 = F0 m 0 ((lg_sl [.ref (ad 105)] ++ List.replicate (1 - (lg_sl [.ref (ad 105)]).length) Slot.unset).toArray) [] := by rw [hargs]; exact lg_entry_eq m _ 1
  have hl := lv_entry [.ref (ad 105)] (n := 1) (Nat.le_of_ble_eq_true rfl)
  rw [he]
  generalize (lg_sl [.ref (ad 105)] ++ List.replicate (1 - (lg_sl [.ref (ad 105)]).length) Slot.unset).toArray = ls at hl
  have hl : lv_has ls 1 [(0, .ref (ad 105))] := hl
  obtain ⟨RR, hR⟩ : ∃ z, z = (headSpec (.code y_Statement_init prog_8_method_1_code 1 none :: zd_ww) { frames := 1, cells := 0, slots := 0, locals := 30 }).room := ⟨_, rfl⟩
  rw [← hR]
  obtain ⟨QQ, hQ⟩ : ∃ z, z = MQ below (zk_Q 2 D cA ad A b 105 (zk_f_Statement_init_105 σ)) args s 0 0 A := ⟨_, rfl⟩
  rw [← hQ]
  have hR1 : 1 ≤ RR.frames := by rw [hR]; exact Nat.le_refl _
  have hR2 : 30 ≤ RR.locals := by rw [hR]; exact Nat.le_refl _
  have hR3 : 0 ≤ RR.cells := by rw [hR]; exact Nat.le_refl _
  have hR4 : 0 ≤ RR.slots := by rw [hR]; exact Nat.le_refl _
  generalize s.heap = H at hw ⊢
  generalize ([] : List Loc) = locs at hw ⊢
  refine lv_aload_n hx hb d_Statement_init_0 rfl (lv_at hl 0 rfl) ?_
  refine W.objInit hx hb hown (hts _ zn2_57) (hts _ zn2_1) (hts _ zn2_2) rfl (by rw [hml]; exact hl.1) rfl d_Statement_init_1 (Nat.le_trans (by decide) hR1) (Nat.le_trans (Nat.le_of_ble_eq_true rfl) hR2) ?_
  refine W.eq (g2 := F0 m 4 ls []) rfl ?_
  refine lv_aload_n hx hb d_Statement_init_4 rfl (lv_at hl 0 rfl) ?_
  refine va_gets (C := "ScheduleCheck$Kind") (n := "STOP") (d := "LScheduleCheck$Kind;") (v := .ref (ad 1109)) hx hb ((G.2.2.2.1.1 rfl).2.2.1.1 9 (by decide)).1 hw.2.2.1 hown (hts _ zn2_58) (fun _ h => h) d_Statement_init_5 ?_
  refine zk_putr (ci := 6) G hw 105 0 (by decide) (by decide) zi_6 t_zd6 t_zd6_ok n_zd6 rfl rfl rfl (by decide) rfl zn2_59 (fun _ h => h) rfl  (x := 1109) (by decide) (t_zd6_ok 0 (by decide)) rfl rfl d_Statement_init_8 (fun H locs hw => ?_)
  exact zk_vret G hw hr hlocks hQ d_Statement_init_11
def zk_f_Statement_init_106 (σ : zs_S) : zs_S := (zs_wr σ 106 0 1109)
set_option maxHeartbeats 8000000 in
set_option maxRecDepth 100000 in
theorem zk_Statement_init_106 {l : Launch} {D : va_G} {cA : Nat → ClassId} {ad : Nat → Nat} {A : Nat → Prop} {b : Nat} {σ : zs_S} (hJ : zs_J ad) (had : ∀ o, 1 ≤ o → o ≤ zd_M 2 → ad o = b + (o - 1)) (hA : ∀ q, b ≤ q → A q) : Met l y_Statement_init (.code y_Statement_init prog_8_method_1_code 1 none :: zd_ww) { frames := 1, cells := 0, slots := 0, locals := 30 } (va_Pc [.ref (ad 106)] (zk_U 2 D cA ad A b 106 σ)) (zk_Q 2 D cA ad A b 106 (zk_f_Statement_init_106 σ)) 0 0 A := by
  refine Met.ofW (cc := prog_8_method_1_code) (maxL := 1) (ret := none) (by decide) rfl ?_
  intro p e s m args below meth c s₁ B hml hv
  obtain ⟨hargs, hP, hK, hD, hZ, hz, hd, hO⟩ := hv
  have G : zk_G 2 p s m args c prog_8_method_1_code 1 "ScheduleCheck$Statement" D cA ad A b := ⟨⟨B.exec, B.bytes, hml, findClass_of_methodNamed B.named, fun w h => atoms_spec B.pre w (List.mem_cons_of_mem _ h)⟩, hK, hJ, hZ, had, hA, hO⟩
  have hw : zk_I 2 D cA ad A s b 106 σ s.heap [] := ⟨hP, hD, va_S.rf, hz, hd⟩
  have hx := G.1.1
  have hb := G.1.2.1
  have hown := G.1.2.2.2.1
  have hts := G.1.2.2.2.2
  have hr := B.returns
  have hlocks := B.notSynchronized
  have hin : meth.name = "<init>" := (name_of_methodNamed B.named B.method).1
  have he : entryFrame m args 1 = F0 m 0 ((lg_sl [.ref (ad 106)] ++ List.replicate (1 - (lg_sl [.ref (ad 106)]).length) Slot.unset).toArray) [] := by rw [hargs]; exact lg_entry_eq m _ 1
  have hl := lv_entry [.ref (ad 106)] (n := 1) (Nat.le_of_ble_eq_true rfl)
  rw [he]
  generalize (lg_sl [.ref (ad 106)] ++ List.replicate (1 - (lg_sl [.ref (ad 106)]).length) Slot.unset).toArray = ls at hl
  have hl : lv_has ls 1 [(0, .ref (ad 106))] := hl
  obtain ⟨RR, hR⟩ : ∃ z, z = (headSpec (.code y_Statement_init prog_8_method_1_code 1 none :: zd_ww) { frames := 1, cells := 0, slots := 0, locals := 30 }).room := ⟨_, rfl⟩
  rw [← hR]
  obtain ⟨QQ, hQ⟩ : ∃ z, z = MQ below (zk_Q 2 D cA ad A b 106 (zk_f_Statement_init_106 σ)) args s 0 0 A := ⟨_, rfl⟩
  rw [← hQ]
  have hR1 : 1 ≤ RR.frames := by rw [hR]; exact Nat.le_refl _
  have hR2 : 30 ≤ RR.locals := by rw [hR]; exact Nat.le_refl _
  have hR3 : 0 ≤ RR.cells := by rw [hR]; exact Nat.le_refl _
  have hR4 : 0 ≤ RR.slots := by rw [hR]; exact Nat.le_refl _
  generalize s.heap = H at hw ⊢
  generalize ([] : List Loc) = locs at hw ⊢
  refine lv_aload_n hx hb d_Statement_init_0 rfl (lv_at hl 0 rfl) ?_
  refine W.objInit hx hb hown (hts _ zn2_57) (hts _ zn2_1) (hts _ zn2_2) rfl (by rw [hml]; exact hl.1) rfl d_Statement_init_1 (Nat.le_trans (by decide) hR1) (Nat.le_trans (Nat.le_of_ble_eq_true rfl) hR2) ?_
  refine W.eq (g2 := F0 m 4 ls []) rfl ?_
  refine lv_aload_n hx hb d_Statement_init_4 rfl (lv_at hl 0 rfl) ?_
  refine va_gets (C := "ScheduleCheck$Kind") (n := "STOP") (d := "LScheduleCheck$Kind;") (v := .ref (ad 1109)) hx hb ((G.2.2.2.1.1 rfl).2.2.1.1 9 (by decide)).1 hw.2.2.1 hown (hts _ zn2_58) (fun _ h => h) d_Statement_init_5 ?_
  refine zk_putr (ci := 6) G hw 106 0 (by decide) (by decide) zi_6 t_zd6 t_zd6_ok n_zd6 rfl rfl rfl (by decide) rfl zn2_59 (fun _ h => h) rfl  (x := 1109) (by decide) (t_zd6_ok 0 (by decide)) rfl rfl d_Statement_init_8 (fun H locs hw => ?_)
  exact zk_vret G hw hr hlocks hQ d_Statement_init_11
def zk_f_Statement_init_107 (σ : zs_S) : zs_S := (zs_wr σ 107 0 1109)
set_option maxHeartbeats 8000000 in
set_option maxRecDepth 100000 in
theorem zk_Statement_init_107 {l : Launch} {D : va_G} {cA : Nat → ClassId} {ad : Nat → Nat} {A : Nat → Prop} {b : Nat} {σ : zs_S} (hJ : zs_J ad) (had : ∀ o, 1 ≤ o → o ≤ zd_M 2 → ad o = b + (o - 1)) (hA : ∀ q, b ≤ q → A q) : Met l y_Statement_init (.code y_Statement_init prog_8_method_1_code 1 none :: zd_ww) { frames := 1, cells := 0, slots := 0, locals := 30 } (va_Pc [.ref (ad 107)] (zk_U 2 D cA ad A b 107 σ)) (zk_Q 2 D cA ad A b 107 (zk_f_Statement_init_107 σ)) 0 0 A := by
  refine Met.ofW (cc := prog_8_method_1_code) (maxL := 1) (ret := none) (by decide) rfl ?_
  intro p e s m args below meth c s₁ B hml hv
  obtain ⟨hargs, hP, hK, hD, hZ, hz, hd, hO⟩ := hv
  have G : zk_G 2 p s m args c prog_8_method_1_code 1 "ScheduleCheck$Statement" D cA ad A b := ⟨⟨B.exec, B.bytes, hml, findClass_of_methodNamed B.named, fun w h => atoms_spec B.pre w (List.mem_cons_of_mem _ h)⟩, hK, hJ, hZ, had, hA, hO⟩
  have hw : zk_I 2 D cA ad A s b 107 σ s.heap [] := ⟨hP, hD, va_S.rf, hz, hd⟩
  have hx := G.1.1
  have hb := G.1.2.1
  have hown := G.1.2.2.2.1
  have hts := G.1.2.2.2.2
  have hr := B.returns
  have hlocks := B.notSynchronized
  have hin : meth.name = "<init>" := (name_of_methodNamed B.named B.method).1
  have he : entryFrame m args 1 = F0 m 0 ((lg_sl [.ref (ad 107)] ++ List.replicate (1 - (lg_sl [.ref (ad 107)]).length) Slot.unset).toArray) [] := by rw [hargs]; exact lg_entry_eq m _ 1
  have hl := lv_entry [.ref (ad 107)] (n := 1) (Nat.le_of_ble_eq_true rfl)
  rw [he]
  generalize (lg_sl [.ref (ad 107)] ++ List.replicate (1 - (lg_sl [.ref (ad 107)]).length) Slot.unset).toArray = ls at hl
  have hl : lv_has ls 1 [(0, .ref (ad 107))] := hl
  obtain ⟨RR, hR⟩ : ∃ z, z = (headSpec (.code y_Statement_init prog_8_method_1_code 1 none :: zd_ww) { frames := 1, cells := 0, slots := 0, locals := 30 }).room := ⟨_, rfl⟩
  rw [← hR]
  obtain ⟨QQ, hQ⟩ : ∃ z, z = MQ below (zk_Q 2 D cA ad A b 107 (zk_f_Statement_init_107 σ)) args s 0 0 A := ⟨_, rfl⟩
  rw [← hQ]
  have hR1 : 1 ≤ RR.frames := by rw [hR]; exact Nat.le_refl _
  have hR2 : 30 ≤ RR.locals := by rw [hR]; exact Nat.le_refl _
  have hR3 : 0 ≤ RR.cells := by rw [hR]; exact Nat.le_refl _
  have hR4 : 0 ≤ RR.slots := by rw [hR]; exact Nat.le_refl _
  generalize s.heap = H at hw ⊢
  generalize ([] : List Loc) = locs at hw ⊢
  refine lv_aload_n hx hb d_Statement_init_0 rfl (lv_at hl 0 rfl) ?_
  refine W.objInit hx hb hown (hts _ zn2_57) (hts _ zn2_1) (hts _ zn2_2) rfl (by rw [hml]; exact hl.1) rfl d_Statement_init_1 (Nat.le_trans (by decide) hR1) (Nat.le_trans (Nat.le_of_ble_eq_true rfl) hR2) ?_
  refine W.eq (g2 := F0 m 4 ls []) rfl ?_
  refine lv_aload_n hx hb d_Statement_init_4 rfl (lv_at hl 0 rfl) ?_
  refine va_gets (C := "ScheduleCheck$Kind") (n := "STOP") (d := "LScheduleCheck$Kind;") (v := .ref (ad 1109)) hx hb ((G.2.2.2.1.1 rfl).2.2.1.1 9 (by decide)).1 hw.2.2.1 hown (hts _ zn2_58) (fun _ h => h) d_Statement_init_5 ?_
  refine zk_putr (ci := 6) G hw 107 0 (by decide) (by decide) zi_6 t_zd6 t_zd6_ok n_zd6 rfl rfl rfl (by decide) rfl zn2_59 (fun _ h => h) rfl  (x := 1109) (by decide) (t_zd6_ok 0 (by decide)) rfl rfl d_Statement_init_8 (fun H locs hw => ?_)
  exact zk_vret G hw hr hlocks hQ d_Statement_init_11
def zk_f_Statement_init_108 (σ : zs_S) : zs_S := (zs_wr σ 108 0 1109)
set_option maxHeartbeats 8000000 in
set_option maxRecDepth 100000 in
theorem zk_Statement_init_108 {l : Launch} {D : va_G} {cA : Nat → ClassId} {ad : Nat → Nat} {A : Nat → Prop} {b : Nat} {σ : zs_S} (hJ : zs_J ad) (had : ∀ o, 1 ≤ o → o ≤ zd_M 2 → ad o = b + (o - 1)) (hA : ∀ q, b ≤ q → A q) : Met l y_Statement_init (.code y_Statement_init prog_8_method_1_code 1 none :: zd_ww) { frames := 1, cells := 0, slots := 0, locals := 30 } (va_Pc [.ref (ad 108)] (zk_U 2 D cA ad A b 108 σ)) (zk_Q 2 D cA ad A b 108 (zk_f_Statement_init_108 σ)) 0 0 A := by
  refine Met.ofW (cc := prog_8_method_1_code) (maxL := 1) (ret := none) (by decide) rfl ?_
  intro p e s m args below meth c s₁ B hml hv
  obtain ⟨hargs, hP, hK, hD, hZ, hz, hd, hO⟩ := hv
  have G : zk_G 2 p s m args c prog_8_method_1_code 1 "ScheduleCheck$Statement" D cA ad A b := ⟨⟨B.exec, B.bytes, hml, findClass_of_methodNamed B.named, fun w h => atoms_spec B.pre w (List.mem_cons_of_mem _ h)⟩, hK, hJ, hZ, had, hA, hO⟩
  have hw : zk_I 2 D cA ad A s b 108 σ s.heap [] := ⟨hP, hD, va_S.rf, hz, hd⟩
  have hx := G.1.1
  have hb := G.1.2.1
  have hown := G.1.2.2.2.1
  have hts := G.1.2.2.2.2
  have hr := B.returns
  have hlocks := B.notSynchronized
  have hin : meth.name = "<init>" := (name_of_methodNamed B.named B.method).1
  have he : entryFrame m args 1 = F0 m 0 ((lg_sl [.ref (ad 108)] ++ List.replicate (1 - (lg_sl [.ref (ad 108)]).length) Slot.unset).toArray) [] := by rw [hargs]; exact lg_entry_eq m _ 1
  have hl := lv_entry [.ref (ad 108)] (n := 1) (Nat.le_of_ble_eq_true rfl)
  rw [he]
  generalize (lg_sl [.ref (ad 108)] ++ List.replicate (1 - (lg_sl [.ref (ad 108)]).length) Slot.unset).toArray = ls at hl
  have hl : lv_has ls 1 [(0, .ref (ad 108))] := hl
  obtain ⟨RR, hR⟩ : ∃ z, z = (headSpec (.code y_Statement_init prog_8_method_1_code 1 none :: zd_ww) { frames := 1, cells := 0, slots := 0, locals := 30 }).room := ⟨_, rfl⟩
  rw [← hR]
  obtain ⟨QQ, hQ⟩ : ∃ z, z = MQ below (zk_Q 2 D cA ad A b 108 (zk_f_Statement_init_108 σ)) args s 0 0 A := ⟨_, rfl⟩
  rw [← hQ]
  have hR1 : 1 ≤ RR.frames := by rw [hR]; exact Nat.le_refl _
  have hR2 : 30 ≤ RR.locals := by rw [hR]; exact Nat.le_refl _
  have hR3 : 0 ≤ RR.cells := by rw [hR]; exact Nat.le_refl _
  have hR4 : 0 ≤ RR.slots := by rw [hR]; exact Nat.le_refl _
  generalize s.heap = H at hw ⊢
  generalize ([] : List Loc) = locs at hw ⊢
  refine lv_aload_n hx hb d_Statement_init_0 rfl (lv_at hl 0 rfl) ?_
  refine W.objInit hx hb hown (hts _ zn2_57) (hts _ zn2_1) (hts _ zn2_2) rfl (by rw [hml]; exact hl.1) rfl d_Statement_init_1 (Nat.le_trans (by decide) hR1) (Nat.le_trans (Nat.le_of_ble_eq_true rfl) hR2) ?_
  refine W.eq (g2 := F0 m 4 ls []) rfl ?_
  refine lv_aload_n hx hb d_Statement_init_4 rfl (lv_at hl 0 rfl) ?_
  refine va_gets (C := "ScheduleCheck$Kind") (n := "STOP") (d := "LScheduleCheck$Kind;") (v := .ref (ad 1109)) hx hb ((G.2.2.2.1.1 rfl).2.2.1.1 9 (by decide)).1 hw.2.2.1 hown (hts _ zn2_58) (fun _ h => h) d_Statement_init_5 ?_
  refine zk_putr (ci := 6) G hw 108 0 (by decide) (by decide) zi_6 t_zd6 t_zd6_ok n_zd6 rfl rfl rfl (by decide) rfl zn2_59 (fun _ h => h) rfl  (x := 1109) (by decide) (t_zd6_ok 0 (by decide)) rfl rfl d_Statement_init_8 (fun H locs hw => ?_)
  exact zk_vret G hw hr hlocks hQ d_Statement_init_11
def zk_f_Statement_init_109 (σ : zs_S) : zs_S := (zs_wr σ 109 0 1109)
set_option maxHeartbeats 8000000 in
set_option maxRecDepth 100000 in
theorem zk_Statement_init_109 {l : Launch} {D : va_G} {cA : Nat → ClassId} {ad : Nat → Nat} {A : Nat → Prop} {b : Nat} {σ : zs_S} (hJ : zs_J ad) (had : ∀ o, 1 ≤ o → o ≤ zd_M 2 → ad o = b + (o - 1)) (hA : ∀ q, b ≤ q → A q) : Met l y_Statement_init (.code y_Statement_init prog_8_method_1_code 1 none :: zd_ww) { frames := 1, cells := 0, slots := 0, locals := 30 } (va_Pc [.ref (ad 109)] (zk_U 2 D cA ad A b 109 σ)) (zk_Q 2 D cA ad A b 109 (zk_f_Statement_init_109 σ)) 0 0 A := by
  refine Met.ofW (cc := prog_8_method_1_code) (maxL := 1) (ret := none) (by decide) rfl ?_
  intro p e s m args below meth c s₁ B hml hv
  obtain ⟨hargs, hP, hK, hD, hZ, hz, hd, hO⟩ := hv
  have G : zk_G 2 p s m args c prog_8_method_1_code 1 "ScheduleCheck$Statement" D cA ad A b := ⟨⟨B.exec, B.bytes, hml, findClass_of_methodNamed B.named, fun w h => atoms_spec B.pre w (List.mem_cons_of_mem _ h)⟩, hK, hJ, hZ, had, hA, hO⟩
  have hw : zk_I 2 D cA ad A s b 109 σ s.heap [] := ⟨hP, hD, va_S.rf, hz, hd⟩
  have hx := G.1.1
  have hb := G.1.2.1
  have hown := G.1.2.2.2.1
  have hts := G.1.2.2.2.2
  have hr := B.returns
  have hlocks := B.notSynchronized
  have hin : meth.name = "<init>" := (name_of_methodNamed B.named B.method).1
  have he : entryFrame m args 1 = F0 m 0 ((lg_sl [.ref (ad 109)] ++ List.replicate (1 - (lg_sl [.ref (ad 109)]).length) Slot.unset).toArray) [] := by rw [hargs]; exact lg_entry_eq m _ 1
  have hl := lv_entry [.ref (ad 109)] (n := 1) (Nat.le_of_ble_eq_true rfl)
  rw [he]
  generalize (lg_sl [.ref (ad 109)] ++ List.replicate (1 - (lg_sl [.ref (ad 109)]).length) Slot.unset).toArray = ls at hl
  have hl : lv_has ls 1 [(0, .ref (ad 109))] := hl
  obtain ⟨RR, hR⟩ : ∃ z, z = (headSpec (.code y_Statement_init prog_8_method_1_code 1 none :: zd_ww) { frames := 1, cells := 0, slots := 0, locals := 30 }).room := ⟨_, rfl⟩
  rw [← hR]
  obtain ⟨QQ, hQ⟩ : ∃ z, z = MQ below (zk_Q 2 D cA ad A b 109 (zk_f_Statement_init_109 σ)) args s 0 0 A := ⟨_, rfl⟩
  rw [← hQ]
  have hR1 : 1 ≤ RR.frames := by rw [hR]; exact Nat.le_refl _
  have hR2 : 30 ≤ RR.locals := by rw [hR]; exact Nat.le_refl _
  have hR3 : 0 ≤ RR.cells := by rw [hR]; exact Nat.le_refl _
  have hR4 : 0 ≤ RR.slots := by rw [hR]; exact Nat.le_refl _
  generalize s.heap = H at hw ⊢
  generalize ([] : List Loc) = locs at hw ⊢
  refine lv_aload_n hx hb d_Statement_init_0 rfl (lv_at hl 0 rfl) ?_
  refine W.objInit hx hb hown (hts _ zn2_57) (hts _ zn2_1) (hts _ zn2_2) rfl (by rw [hml]; exact hl.1) rfl d_Statement_init_1 (Nat.le_trans (by decide) hR1) (Nat.le_trans (Nat.le_of_ble_eq_true rfl) hR2) ?_
  refine W.eq (g2 := F0 m 4 ls []) rfl ?_
  refine lv_aload_n hx hb d_Statement_init_4 rfl (lv_at hl 0 rfl) ?_
  refine va_gets (C := "ScheduleCheck$Kind") (n := "STOP") (d := "LScheduleCheck$Kind;") (v := .ref (ad 1109)) hx hb ((G.2.2.2.1.1 rfl).2.2.1.1 9 (by decide)).1 hw.2.2.1 hown (hts _ zn2_58) (fun _ h => h) d_Statement_init_5 ?_
  refine zk_putr (ci := 6) G hw 109 0 (by decide) (by decide) zi_6 t_zd6 t_zd6_ok n_zd6 rfl rfl rfl (by decide) rfl zn2_59 (fun _ h => h) rfl  (x := 1109) (by decide) (t_zd6_ok 0 (by decide)) rfl rfl d_Statement_init_8 (fun H locs hw => ?_)
  exact zk_vret G hw hr hlocks hQ d_Statement_init_11
def zk_f_Statement_init_110 (σ : zs_S) : zs_S := (zs_wr σ 110 0 1109)
set_option maxHeartbeats 8000000 in
set_option maxRecDepth 100000 in
theorem zk_Statement_init_110 {l : Launch} {D : va_G} {cA : Nat → ClassId} {ad : Nat → Nat} {A : Nat → Prop} {b : Nat} {σ : zs_S} (hJ : zs_J ad) (had : ∀ o, 1 ≤ o → o ≤ zd_M 2 → ad o = b + (o - 1)) (hA : ∀ q, b ≤ q → A q) : Met l y_Statement_init (.code y_Statement_init prog_8_method_1_code 1 none :: zd_ww) { frames := 1, cells := 0, slots := 0, locals := 30 } (va_Pc [.ref (ad 110)] (zk_U 2 D cA ad A b 110 σ)) (zk_Q 2 D cA ad A b 110 (zk_f_Statement_init_110 σ)) 0 0 A := by
  refine Met.ofW (cc := prog_8_method_1_code) (maxL := 1) (ret := none) (by decide) rfl ?_
  intro p e s m args below meth c s₁ B hml hv
  obtain ⟨hargs, hP, hK, hD, hZ, hz, hd, hO⟩ := hv
  have G : zk_G 2 p s m args c prog_8_method_1_code 1 "ScheduleCheck$Statement" D cA ad A b := ⟨⟨B.exec, B.bytes, hml, findClass_of_methodNamed B.named, fun w h => atoms_spec B.pre w (List.mem_cons_of_mem _ h)⟩, hK, hJ, hZ, had, hA, hO⟩
  have hw : zk_I 2 D cA ad A s b 110 σ s.heap [] := ⟨hP, hD, va_S.rf, hz, hd⟩
  have hx := G.1.1
  have hb := G.1.2.1
  have hown := G.1.2.2.2.1
  have hts := G.1.2.2.2.2
  have hr := B.returns
  have hlocks := B.notSynchronized
  have hin : meth.name = "<init>" := (name_of_methodNamed B.named B.method).1
  have he : entryFrame m args 1 = F0 m 0 ((lg_sl [.ref (ad 110)] ++ List.replicate (1 - (lg_sl [.ref (ad 110)]).length) Slot.unset).toArray) [] := by rw [hargs]; exact lg_entry_eq m _ 1
  have hl := lv_entry [.ref (ad 110)] (n := 1) (Nat.le_of_ble_eq_true rfl)
  rw [he]
  generalize (lg_sl [.ref (ad 110)] ++ List.replicate (1 - (lg_sl [.ref (ad 110)]).length) Slot.unset).toArray = ls at hl
  have hl : lv_has ls 1 [(0, .ref (ad 110))] := hl
  obtain ⟨RR, hR⟩ : ∃ z, z = (headSpec (.code y_Statement_init prog_8_method_1_code 1 none :: zd_ww) { frames := 1, cells := 0, slots := 0, locals := 30 }).room := ⟨_, rfl⟩
  rw [← hR]
  obtain ⟨QQ, hQ⟩ : ∃ z, z = MQ below (zk_Q 2 D cA ad A b 110 (zk_f_Statement_init_110 σ)) args s 0 0 A := ⟨_, rfl⟩
  rw [← hQ]
  have hR1 : 1 ≤ RR.frames := by rw [hR]; exact Nat.le_refl _
  have hR2 : 30 ≤ RR.locals := by rw [hR]; exact Nat.le_refl _
  have hR3 : 0 ≤ RR.cells := by rw [hR]; exact Nat.le_refl _
  have hR4 : 0 ≤ RR.slots := by rw [hR]; exact Nat.le_refl _
  generalize s.heap = H at hw ⊢
  generalize ([] : List Loc) = locs at hw ⊢
  refine lv_aload_n hx hb d_Statement_init_0 rfl (lv_at hl 0 rfl) ?_
  refine W.objInit hx hb hown (hts _ zn2_57) (hts _ zn2_1) (hts _ zn2_2) rfl (by rw [hml]; exact hl.1) rfl d_Statement_init_1 (Nat.le_trans (by decide) hR1) (Nat.le_trans (Nat.le_of_ble_eq_true rfl) hR2) ?_
  refine W.eq (g2 := F0 m 4 ls []) rfl ?_
  refine lv_aload_n hx hb d_Statement_init_4 rfl (lv_at hl 0 rfl) ?_
  refine va_gets (C := "ScheduleCheck$Kind") (n := "STOP") (d := "LScheduleCheck$Kind;") (v := .ref (ad 1109)) hx hb ((G.2.2.2.1.1 rfl).2.2.1.1 9 (by decide)).1 hw.2.2.1 hown (hts _ zn2_58) (fun _ h => h) d_Statement_init_5 ?_
  refine zk_putr (ci := 6) G hw 110 0 (by decide) (by decide) zi_6 t_zd6 t_zd6_ok n_zd6 rfl rfl rfl (by decide) rfl zn2_59 (fun _ h => h) rfl  (x := 1109) (by decide) (t_zd6_ok 0 (by decide)) rfl rfl d_Statement_init_8 (fun H locs hw => ?_)
  exact zk_vret G hw hr hlocks hQ d_Statement_init_11
def zk_f_Statement_init_111 (σ : zs_S) : zs_S := (zs_wr σ 111 0 1109)
set_option maxHeartbeats 8000000 in
set_option maxRecDepth 100000 in
theorem zk_Statement_init_111 {l : Launch} {D : va_G} {cA : Nat → ClassId} {ad : Nat → Nat} {A : Nat → Prop} {b : Nat} {σ : zs_S} (hJ : zs_J ad) (had : ∀ o, 1 ≤ o → o ≤ zd_M 2 → ad o = b + (o - 1)) (hA : ∀ q, b ≤ q → A q) : Met l y_Statement_init (.code y_Statement_init prog_8_method_1_code 1 none :: zd_ww) { frames := 1, cells := 0, slots := 0, locals := 30 } (va_Pc [.ref (ad 111)] (zk_U 2 D cA ad A b 111 σ)) (zk_Q 2 D cA ad A b 111 (zk_f_Statement_init_111 σ)) 0 0 A := by
  refine Met.ofW (cc := prog_8_method_1_code) (maxL := 1) (ret := none) (by decide) rfl ?_
  intro p e s m args below meth c s₁ B hml hv
  obtain ⟨hargs, hP, hK, hD, hZ, hz, hd, hO⟩ := hv
  have G : zk_G 2 p s m args c prog_8_method_1_code 1 "ScheduleCheck$Statement" D cA ad A b := ⟨⟨B.exec, B.bytes, hml, findClass_of_methodNamed B.named, fun w h => atoms_spec B.pre w (List.mem_cons_of_mem _ h)⟩, hK, hJ, hZ, had, hA, hO⟩
  have hw : zk_I 2 D cA ad A s b 111 σ s.heap [] := ⟨hP, hD, va_S.rf, hz, hd⟩
  have hx := G.1.1
  have hb := G.1.2.1
  have hown := G.1.2.2.2.1
  have hts := G.1.2.2.2.2
  have hr := B.returns
  have hlocks := B.notSynchronized
  have hin : meth.name = "<init>" := (name_of_methodNamed B.named B.method).1
  have he : entryFrame m args 1 = F0 m 0 ((lg_sl [.ref (ad 111)] ++ List.replicate (1 - (lg_sl [.ref (ad 111)]).length) Slot.unset).toArray) [] := by rw [hargs]; exact lg_entry_eq m _ 1
  have hl := lv_entry [.ref (ad 111)] (n := 1) (Nat.le_of_ble_eq_true rfl)
  rw [he]
  generalize (lg_sl [.ref (ad 111)] ++ List.replicate (1 - (lg_sl [.ref (ad 111)]).length) Slot.unset).toArray = ls at hl
  have hl : lv_has ls 1 [(0, .ref (ad 111))] := hl
  obtain ⟨RR, hR⟩ : ∃ z, z = (headSpec (.code y_Statement_init prog_8_method_1_code 1 none :: zd_ww) { frames := 1, cells := 0, slots := 0, locals := 30 }).room := ⟨_, rfl⟩
  rw [← hR]
  obtain ⟨QQ, hQ⟩ : ∃ z, z = MQ below (zk_Q 2 D cA ad A b 111 (zk_f_Statement_init_111 σ)) args s 0 0 A := ⟨_, rfl⟩
  rw [← hQ]
  have hR1 : 1 ≤ RR.frames := by rw [hR]; exact Nat.le_refl _
  have hR2 : 30 ≤ RR.locals := by rw [hR]; exact Nat.le_refl _
  have hR3 : 0 ≤ RR.cells := by rw [hR]; exact Nat.le_refl _
  have hR4 : 0 ≤ RR.slots := by rw [hR]; exact Nat.le_refl _
  generalize s.heap = H at hw ⊢
  generalize ([] : List Loc) = locs at hw ⊢
  refine lv_aload_n hx hb d_Statement_init_0 rfl (lv_at hl 0 rfl) ?_
  refine W.objInit hx hb hown (hts _ zn2_57) (hts _ zn2_1) (hts _ zn2_2) rfl (by rw [hml]; exact hl.1) rfl d_Statement_init_1 (Nat.le_trans (by decide) hR1) (Nat.le_trans (Nat.le_of_ble_eq_true rfl) hR2) ?_
  refine W.eq (g2 := F0 m 4 ls []) rfl ?_
  refine lv_aload_n hx hb d_Statement_init_4 rfl (lv_at hl 0 rfl) ?_
  refine va_gets (C := "ScheduleCheck$Kind") (n := "STOP") (d := "LScheduleCheck$Kind;") (v := .ref (ad 1109)) hx hb ((G.2.2.2.1.1 rfl).2.2.1.1 9 (by decide)).1 hw.2.2.1 hown (hts _ zn2_58) (fun _ h => h) d_Statement_init_5 ?_
  refine zk_putr (ci := 6) G hw 111 0 (by decide) (by decide) zi_6 t_zd6 t_zd6_ok n_zd6 rfl rfl rfl (by decide) rfl zn2_59 (fun _ h => h) rfl  (x := 1109) (by decide) (t_zd6_ok 0 (by decide)) rfl rfl d_Statement_init_8 (fun H locs hw => ?_)
  exact zk_vret G hw hr hlocks hQ d_Statement_init_11
def zk_f_Statement_init_112 (σ : zs_S) : zs_S := (zs_wr σ 112 0 1109)
set_option maxHeartbeats 8000000 in
set_option maxRecDepth 100000 in
theorem zk_Statement_init_112 {l : Launch} {D : va_G} {cA : Nat → ClassId} {ad : Nat → Nat} {A : Nat → Prop} {b : Nat} {σ : zs_S} (hJ : zs_J ad) (had : ∀ o, 1 ≤ o → o ≤ zd_M 2 → ad o = b + (o - 1)) (hA : ∀ q, b ≤ q → A q) : Met l y_Statement_init (.code y_Statement_init prog_8_method_1_code 1 none :: zd_ww) { frames := 1, cells := 0, slots := 0, locals := 30 } (va_Pc [.ref (ad 112)] (zk_U 2 D cA ad A b 112 σ)) (zk_Q 2 D cA ad A b 112 (zk_f_Statement_init_112 σ)) 0 0 A := by
  refine Met.ofW (cc := prog_8_method_1_code) (maxL := 1) (ret := none) (by decide) rfl ?_
  intro p e s m args below meth c s₁ B hml hv
  obtain ⟨hargs, hP, hK, hD, hZ, hz, hd, hO⟩ := hv
  have G : zk_G 2 p s m args c prog_8_method_1_code 1 "ScheduleCheck$Statement" D cA ad A b := ⟨⟨B.exec, B.bytes, hml, findClass_of_methodNamed B.named, fun w h => atoms_spec B.pre w (List.mem_cons_of_mem _ h)⟩, hK, hJ, hZ, had, hA, hO⟩
  have hw : zk_I 2 D cA ad A s b 112 σ s.heap [] := ⟨hP, hD, va_S.rf, hz, hd⟩
  have hx := G.1.1
  have hb := G.1.2.1
  have hown := G.1.2.2.2.1
  have hts := G.1.2.2.2.2
  have hr := B.returns
  have hlocks := B.notSynchronized
  have hin : meth.name = "<init>" := (name_of_methodNamed B.named B.method).1
  have he : entryFrame m args 1 = F0 m 0 ((lg_sl [.ref (ad 112)] ++ List.replicate (1 - (lg_sl [.ref (ad 112)]).length) Slot.unset).toArray) [] := by rw [hargs]; exact lg_entry_eq m _ 1
  have hl := lv_entry [.ref (ad 112)] (n := 1) (Nat.le_of_ble_eq_true rfl)
  rw [he]
  generalize (lg_sl [.ref (ad 112)] ++ List.replicate (1 - (lg_sl [.ref (ad 112)]).length) Slot.unset).toArray = ls at hl
  have hl : lv_has ls 1 [(0, .ref (ad 112))] := hl
  obtain ⟨RR, hR⟩ : ∃ z, z = (headSpec (.code y_Statement_init prog_8_method_1_code 1 none :: zd_ww) { frames := 1, cells := 0, slots := 0, locals := 30 }).room := ⟨_, rfl⟩
  rw [← hR]
  obtain ⟨QQ, hQ⟩ : ∃ z, z = MQ below (zk_Q 2 D cA ad A b 112 (zk_f_Statement_init_112 σ)) args s 0 0 A := ⟨_, rfl⟩
  rw [← hQ]
  have hR1 : 1 ≤ RR.frames := by rw [hR]; exact Nat.le_refl _
  have hR2 : 30 ≤ RR.locals := by rw [hR]; exact Nat.le_refl _
  have hR3 : 0 ≤ RR.cells := by rw [hR]; exact Nat.le_refl _
  have hR4 : 0 ≤ RR.slots := by rw [hR]; exact Nat.le_refl _
  generalize s.heap = H at hw ⊢
  generalize ([] : List Loc) = locs at hw ⊢
  refine lv_aload_n hx hb d_Statement_init_0 rfl (lv_at hl 0 rfl) ?_
  refine W.objInit hx hb hown (hts _ zn2_57) (hts _ zn2_1) (hts _ zn2_2) rfl (by rw [hml]; exact hl.1) rfl d_Statement_init_1 (Nat.le_trans (by decide) hR1) (Nat.le_trans (Nat.le_of_ble_eq_true rfl) hR2) ?_
  refine W.eq (g2 := F0 m 4 ls []) rfl ?_
  refine lv_aload_n hx hb d_Statement_init_4 rfl (lv_at hl 0 rfl) ?_
  refine va_gets (C := "ScheduleCheck$Kind") (n := "STOP") (d := "LScheduleCheck$Kind;") (v := .ref (ad 1109)) hx hb ((G.2.2.2.1.1 rfl).2.2.1.1 9 (by decide)).1 hw.2.2.1 hown (hts _ zn2_58) (fun _ h => h) d_Statement_init_5 ?_
  refine zk_putr (ci := 6) G hw 112 0 (by decide) (by decide) zi_6 t_zd6 t_zd6_ok n_zd6 rfl rfl rfl (by decide) rfl zn2_59 (fun _ h => h) rfl  (x := 1109) (by decide) (t_zd6_ok 0 (by decide)) rfl rfl d_Statement_init_8 (fun H locs hw => ?_)
  exact zk_vret G hw hr hlocks hQ d_Statement_init_11
def zk_f_Statement_init_113 (σ : zs_S) : zs_S := (zs_wr σ 113 0 1109)
set_option maxHeartbeats 8000000 in
set_option maxRecDepth 100000 in
theorem zk_Statement_init_113 {l : Launch} {D : va_G} {cA : Nat → ClassId} {ad : Nat → Nat} {A : Nat → Prop} {b : Nat} {σ : zs_S} (hJ : zs_J ad) (had : ∀ o, 1 ≤ o → o ≤ zd_M 2 → ad o = b + (o - 1)) (hA : ∀ q, b ≤ q → A q) : Met l y_Statement_init (.code y_Statement_init prog_8_method_1_code 1 none :: zd_ww) { frames := 1, cells := 0, slots := 0, locals := 30 } (va_Pc [.ref (ad 113)] (zk_U 2 D cA ad A b 113 σ)) (zk_Q 2 D cA ad A b 113 (zk_f_Statement_init_113 σ)) 0 0 A := by
  refine Met.ofW (cc := prog_8_method_1_code) (maxL := 1) (ret := none) (by decide) rfl ?_
  intro p e s m args below meth c s₁ B hml hv
  obtain ⟨hargs, hP, hK, hD, hZ, hz, hd, hO⟩ := hv
  have G : zk_G 2 p s m args c prog_8_method_1_code 1 "ScheduleCheck$Statement" D cA ad A b := ⟨⟨B.exec, B.bytes, hml, findClass_of_methodNamed B.named, fun w h => atoms_spec B.pre w (List.mem_cons_of_mem _ h)⟩, hK, hJ, hZ, had, hA, hO⟩
  have hw : zk_I 2 D cA ad A s b 113 σ s.heap [] := ⟨hP, hD, va_S.rf, hz, hd⟩
  have hx := G.1.1
  have hb := G.1.2.1
  have hown := G.1.2.2.2.1
  have hts := G.1.2.2.2.2
  have hr := B.returns
  have hlocks := B.notSynchronized
  have hin : meth.name = "<init>" := (name_of_methodNamed B.named B.method).1
  have he : entryFrame m args 1 = F0 m 0 ((lg_sl [.ref (ad 113)] ++ List.replicate (1 - (lg_sl [.ref (ad 113)]).length) Slot.unset).toArray) [] := by rw [hargs]; exact lg_entry_eq m _ 1
  have hl := lv_entry [.ref (ad 113)] (n := 1) (Nat.le_of_ble_eq_true rfl)
  rw [he]
  generalize (lg_sl [.ref (ad 113)] ++ List.replicate (1 - (lg_sl [.ref (ad 113)]).length) Slot.unset).toArray = ls at hl
  have hl : lv_has ls 1 [(0, .ref (ad 113))] := hl
  obtain ⟨RR, hR⟩ : ∃ z, z = (headSpec (.code y_Statement_init prog_8_method_1_code 1 none :: zd_ww) { frames := 1, cells := 0, slots := 0, locals := 30 }).room := ⟨_, rfl⟩
  rw [← hR]
  obtain ⟨QQ, hQ⟩ : ∃ z, z = MQ below (zk_Q 2 D cA ad A b 113 (zk_f_Statement_init_113 σ)) args s 0 0 A := ⟨_, rfl⟩
  rw [← hQ]
  have hR1 : 1 ≤ RR.frames := by rw [hR]; exact Nat.le_refl _
  have hR2 : 30 ≤ RR.locals := by rw [hR]; exact Nat.le_refl _
  have hR3 : 0 ≤ RR.cells := by rw [hR]; exact Nat.le_refl _
  have hR4 : 0 ≤ RR.slots := by rw [hR]; exact Nat.le_refl _
  generalize s.heap = H at hw ⊢
  generalize ([] : List Loc) = locs at hw ⊢
  refine lv_aload_n hx hb d_Statement_init_0 rfl (lv_at hl 0 rfl) ?_
  refine W.objInit hx hb hown (hts _ zn2_57) (hts _ zn2_1) (hts _ zn2_2) rfl (by rw [hml]; exact hl.1) rfl d_Statement_init_1 (Nat.le_trans (by decide) hR1) (Nat.le_trans (Nat.le_of_ble_eq_true rfl) hR2) ?_
  refine W.eq (g2 := F0 m 4 ls []) rfl ?_
  refine lv_aload_n hx hb d_Statement_init_4 rfl (lv_at hl 0 rfl) ?_
  refine va_gets (C := "ScheduleCheck$Kind") (n := "STOP") (d := "LScheduleCheck$Kind;") (v := .ref (ad 1109)) hx hb ((G.2.2.2.1.1 rfl).2.2.1.1 9 (by decide)).1 hw.2.2.1 hown (hts _ zn2_58) (fun _ h => h) d_Statement_init_5 ?_
  refine zk_putr (ci := 6) G hw 113 0 (by decide) (by decide) zi_6 t_zd6 t_zd6_ok n_zd6 rfl rfl rfl (by decide) rfl zn2_59 (fun _ h => h) rfl  (x := 1109) (by decide) (t_zd6_ok 0 (by decide)) rfl rfl d_Statement_init_8 (fun H locs hw => ?_)
  exact zk_vret G hw hr hlocks hQ d_Statement_init_11
def zk_f_Statement_init_114 (σ : zs_S) : zs_S := (zs_wr σ 114 0 1109)
set_option maxHeartbeats 8000000 in
set_option maxRecDepth 100000 in
theorem zk_Statement_init_114 {l : Launch} {D : va_G} {cA : Nat → ClassId} {ad : Nat → Nat} {A : Nat → Prop} {b : Nat} {σ : zs_S} (hJ : zs_J ad) (had : ∀ o, 1 ≤ o → o ≤ zd_M 2 → ad o = b + (o - 1)) (hA : ∀ q, b ≤ q → A q) : Met l y_Statement_init (.code y_Statement_init prog_8_method_1_code 1 none :: zd_ww) { frames := 1, cells := 0, slots := 0, locals := 30 } (va_Pc [.ref (ad 114)] (zk_U 2 D cA ad A b 114 σ)) (zk_Q 2 D cA ad A b 114 (zk_f_Statement_init_114 σ)) 0 0 A := by
  refine Met.ofW (cc := prog_8_method_1_code) (maxL := 1) (ret := none) (by decide) rfl ?_
  intro p e s m args below meth c s₁ B hml hv
  obtain ⟨hargs, hP, hK, hD, hZ, hz, hd, hO⟩ := hv
  have G : zk_G 2 p s m args c prog_8_method_1_code 1 "ScheduleCheck$Statement" D cA ad A b := ⟨⟨B.exec, B.bytes, hml, findClass_of_methodNamed B.named, fun w h => atoms_spec B.pre w (List.mem_cons_of_mem _ h)⟩, hK, hJ, hZ, had, hA, hO⟩
  have hw : zk_I 2 D cA ad A s b 114 σ s.heap [] := ⟨hP, hD, va_S.rf, hz, hd⟩
  have hx := G.1.1
  have hb := G.1.2.1
  have hown := G.1.2.2.2.1
  have hts := G.1.2.2.2.2
  have hr := B.returns
  have hlocks := B.notSynchronized
  have hin : meth.name = "<init>" := (name_of_methodNamed B.named B.method).1
  have he : entryFrame m args 1 = F0 m 0 ((lg_sl [.ref (ad 114)] ++ List.replicate (1 - (lg_sl [.ref (ad 114)]).length) Slot.unset).toArray) [] := by rw [hargs]; exact lg_entry_eq m _ 1
  have hl := lv_entry [.ref (ad 114)] (n := 1) (Nat.le_of_ble_eq_true rfl)
  rw [he]
  generalize (lg_sl [.ref (ad 114)] ++ List.replicate (1 - (lg_sl [.ref (ad 114)]).length) Slot.unset).toArray = ls at hl
  have hl : lv_has ls 1 [(0, .ref (ad 114))] := hl
  obtain ⟨RR, hR⟩ : ∃ z, z = (headSpec (.code y_Statement_init prog_8_method_1_code 1 none :: zd_ww) { frames := 1, cells := 0, slots := 0, locals := 30 }).room := ⟨_, rfl⟩
  rw [← hR]
  obtain ⟨QQ, hQ⟩ : ∃ z, z = MQ below (zk_Q 2 D cA ad A b 114 (zk_f_Statement_init_114 σ)) args s 0 0 A := ⟨_, rfl⟩
  rw [← hQ]
  have hR1 : 1 ≤ RR.frames := by rw [hR]; exact Nat.le_refl _
  have hR2 : 30 ≤ RR.locals := by rw [hR]; exact Nat.le_refl _
  have hR3 : 0 ≤ RR.cells := by rw [hR]; exact Nat.le_refl _
  have hR4 : 0 ≤ RR.slots := by rw [hR]; exact Nat.le_refl _
  generalize s.heap = H at hw ⊢
  generalize ([] : List Loc) = locs at hw ⊢
  refine lv_aload_n hx hb d_Statement_init_0 rfl (lv_at hl 0 rfl) ?_
  refine W.objInit hx hb hown (hts _ zn2_57) (hts _ zn2_1) (hts _ zn2_2) rfl (by rw [hml]; exact hl.1) rfl d_Statement_init_1 (Nat.le_trans (by decide) hR1) (Nat.le_trans (Nat.le_of_ble_eq_true rfl) hR2) ?_
  refine W.eq (g2 := F0 m 4 ls []) rfl ?_
  refine lv_aload_n hx hb d_Statement_init_4 rfl (lv_at hl 0 rfl) ?_
  refine va_gets (C := "ScheduleCheck$Kind") (n := "STOP") (d := "LScheduleCheck$Kind;") (v := .ref (ad 1109)) hx hb ((G.2.2.2.1.1 rfl).2.2.1.1 9 (by decide)).1 hw.2.2.1 hown (hts _ zn2_58) (fun _ h => h) d_Statement_init_5 ?_
  refine zk_putr (ci := 6) G hw 114 0 (by decide) (by decide) zi_6 t_zd6 t_zd6_ok n_zd6 rfl rfl rfl (by decide) rfl zn2_59 (fun _ h => h) rfl  (x := 1109) (by decide) (t_zd6_ok 0 (by decide)) rfl rfl d_Statement_init_8 (fun H locs hw => ?_)
  exact zk_vret G hw hr hlocks hQ d_Statement_init_11
def zk_f_Statement_init_115 (σ : zs_S) : zs_S := (zs_wr σ 115 0 1109)
set_option maxHeartbeats 8000000 in
set_option maxRecDepth 100000 in
theorem zk_Statement_init_115 {l : Launch} {D : va_G} {cA : Nat → ClassId} {ad : Nat → Nat} {A : Nat → Prop} {b : Nat} {σ : zs_S} (hJ : zs_J ad) (had : ∀ o, 1 ≤ o → o ≤ zd_M 2 → ad o = b + (o - 1)) (hA : ∀ q, b ≤ q → A q) : Met l y_Statement_init (.code y_Statement_init prog_8_method_1_code 1 none :: zd_ww) { frames := 1, cells := 0, slots := 0, locals := 30 } (va_Pc [.ref (ad 115)] (zk_U 2 D cA ad A b 115 σ)) (zk_Q 2 D cA ad A b 115 (zk_f_Statement_init_115 σ)) 0 0 A := by
  refine Met.ofW (cc := prog_8_method_1_code) (maxL := 1) (ret := none) (by decide) rfl ?_
  intro p e s m args below meth c s₁ B hml hv
  obtain ⟨hargs, hP, hK, hD, hZ, hz, hd, hO⟩ := hv
  have G : zk_G 2 p s m args c prog_8_method_1_code 1 "ScheduleCheck$Statement" D cA ad A b := ⟨⟨B.exec, B.bytes, hml, findClass_of_methodNamed B.named, fun w h => atoms_spec B.pre w (List.mem_cons_of_mem _ h)⟩, hK, hJ, hZ, had, hA, hO⟩
  have hw : zk_I 2 D cA ad A s b 115 σ s.heap [] := ⟨hP, hD, va_S.rf, hz, hd⟩
  have hx := G.1.1
  have hb := G.1.2.1
  have hown := G.1.2.2.2.1
  have hts := G.1.2.2.2.2
  have hr := B.returns
  have hlocks := B.notSynchronized
  have hin : meth.name = "<init>" := (name_of_methodNamed B.named B.method).1
  have he : entryFrame m args 1 = F0 m 0 ((lg_sl [.ref (ad 115)] ++ List.replicate (1 - (lg_sl [.ref (ad 115)]).length) Slot.unset).toArray) [] := by rw [hargs]; exact lg_entry_eq m _ 1
  have hl := lv_entry [.ref (ad 115)] (n := 1) (Nat.le_of_ble_eq_true rfl)
  rw [he]
  generalize (lg_sl [.ref (ad 115)] ++ List.replicate (1 - (lg_sl [.ref (ad 115)]).length) Slot.unset).toArray = ls at hl
  have hl : lv_has ls 1 [(0, .ref (ad 115))] := hl
  obtain ⟨RR, hR⟩ : ∃ z, z = (headSpec (.code y_Statement_init prog_8_method_1_code 1 none :: zd_ww) { frames := 1, cells := 0, slots := 0, locals := 30 }).room := ⟨_, rfl⟩
  rw [← hR]
  obtain ⟨QQ, hQ⟩ : ∃ z, z = MQ below (zk_Q 2 D cA ad A b 115 (zk_f_Statement_init_115 σ)) args s 0 0 A := ⟨_, rfl⟩
  rw [← hQ]
  have hR1 : 1 ≤ RR.frames := by rw [hR]; exact Nat.le_refl _
  have hR2 : 30 ≤ RR.locals := by rw [hR]; exact Nat.le_refl _
  have hR3 : 0 ≤ RR.cells := by rw [hR]; exact Nat.le_refl _
  have hR4 : 0 ≤ RR.slots := by rw [hR]; exact Nat.le_refl _
  generalize s.heap = H at hw ⊢
  generalize ([] : List Loc) = locs at hw ⊢
  refine lv_aload_n hx hb d_Statement_init_0 rfl (lv_at hl 0 rfl) ?_
  refine W.objInit hx hb hown (hts _ zn2_57) (hts _ zn2_1) (hts _ zn2_2) rfl (by rw [hml]; exact hl.1) rfl d_Statement_init_1 (Nat.le_trans (by decide) hR1) (Nat.le_trans (Nat.le_of_ble_eq_true rfl) hR2) ?_
  refine W.eq (g2 := F0 m 4 ls []) rfl ?_
  refine lv_aload_n hx hb d_Statement_init_4 rfl (lv_at hl 0 rfl) ?_
  refine va_gets (C := "ScheduleCheck$Kind") (n := "STOP") (d := "LScheduleCheck$Kind;") (v := .ref (ad 1109)) hx hb ((G.2.2.2.1.1 rfl).2.2.1.1 9 (by decide)).1 hw.2.2.1 hown (hts _ zn2_58) (fun _ h => h) d_Statement_init_5 ?_
  refine zk_putr (ci := 6) G hw 115 0 (by decide) (by decide) zi_6 t_zd6 t_zd6_ok n_zd6 rfl rfl rfl (by decide) rfl zn2_59 (fun _ h => h) rfl  (x := 1109) (by decide) (t_zd6_ok 0 (by decide)) rfl rfl d_Statement_init_8 (fun H locs hw => ?_)
  exact zk_vret G hw hr hlocks hQ d_Statement_init_11
def zk_f_Statement_init_116 (σ : zs_S) : zs_S := (zs_wr σ 116 0 1109)
set_option maxHeartbeats 8000000 in
set_option maxRecDepth 100000 in
theorem zk_Statement_init_116 {l : Launch} {D : va_G} {cA : Nat → ClassId} {ad : Nat → Nat} {A : Nat → Prop} {b : Nat} {σ : zs_S} (hJ : zs_J ad) (had : ∀ o, 1 ≤ o → o ≤ zd_M 2 → ad o = b + (o - 1)) (hA : ∀ q, b ≤ q → A q) : Met l y_Statement_init (.code y_Statement_init prog_8_method_1_code 1 none :: zd_ww) { frames := 1, cells := 0, slots := 0, locals := 30 } (va_Pc [.ref (ad 116)] (zk_U 2 D cA ad A b 116 σ)) (zk_Q 2 D cA ad A b 116 (zk_f_Statement_init_116 σ)) 0 0 A := by
  refine Met.ofW (cc := prog_8_method_1_code) (maxL := 1) (ret := none) (by decide) rfl ?_
  intro p e s m args below meth c s₁ B hml hv
  obtain ⟨hargs, hP, hK, hD, hZ, hz, hd, hO⟩ := hv
  have G : zk_G 2 p s m args c prog_8_method_1_code 1 "ScheduleCheck$Statement" D cA ad A b := ⟨⟨B.exec, B.bytes, hml, findClass_of_methodNamed B.named, fun w h => atoms_spec B.pre w (List.mem_cons_of_mem _ h)⟩, hK, hJ, hZ, had, hA, hO⟩
  have hw : zk_I 2 D cA ad A s b 116 σ s.heap [] := ⟨hP, hD, va_S.rf, hz, hd⟩
  have hx := G.1.1
  have hb := G.1.2.1
  have hown := G.1.2.2.2.1
  have hts := G.1.2.2.2.2
  have hr := B.returns
  have hlocks := B.notSynchronized
  have hin : meth.name = "<init>" := (name_of_methodNamed B.named B.method).1
  have he : entryFrame m args 1 = F0 m 0 ((lg_sl [.ref (ad 116)] ++ List.replicate (1 - (lg_sl [.ref (ad 116)]).length) Slot.unset).toArray) [] := by rw [hargs]; exact lg_entry_eq m _ 1
  have hl := lv_entry [.ref (ad 116)] (n := 1) (Nat.le_of_ble_eq_true rfl)
  rw [he]
  generalize (lg_sl [.ref (ad 116)] ++ List.replicate (1 - (lg_sl [.ref (ad 116)]).length) Slot.unset).toArray = ls at hl
  have hl : lv_has ls 1 [(0, .ref (ad 116))] := hl
  obtain ⟨RR, hR⟩ : ∃ z, z = (headSpec (.code y_Statement_init prog_8_method_1_code 1 none :: zd_ww) { frames := 1, cells := 0, slots := 0, locals := 30 }).room := ⟨_, rfl⟩
  rw [← hR]
  obtain ⟨QQ, hQ⟩ : ∃ z, z = MQ below (zk_Q 2 D cA ad A b 116 (zk_f_Statement_init_116 σ)) args s 0 0 A := ⟨_, rfl⟩
  rw [← hQ]
  have hR1 : 1 ≤ RR.frames := by rw [hR]; exact Nat.le_refl _
  have hR2 : 30 ≤ RR.locals := by rw [hR]; exact Nat.le_refl _
  have hR3 : 0 ≤ RR.cells := by rw [hR]; exact Nat.le_refl _
  have hR4 : 0 ≤ RR.slots := by rw [hR]; exact Nat.le_refl _
  generalize s.heap = H at hw ⊢
  generalize ([] : List Loc) = locs at hw ⊢
  refine lv_aload_n hx hb d_Statement_init_0 rfl (lv_at hl 0 rfl) ?_
  refine W.objInit hx hb hown (hts _ zn2_57) (hts _ zn2_1) (hts _ zn2_2) rfl (by rw [hml]; exact hl.1) rfl d_Statement_init_1 (Nat.le_trans (by decide) hR1) (Nat.le_trans (Nat.le_of_ble_eq_true rfl) hR2) ?_
  refine W.eq (g2 := F0 m 4 ls []) rfl ?_
  refine lv_aload_n hx hb d_Statement_init_4 rfl (lv_at hl 0 rfl) ?_
  refine va_gets (C := "ScheduleCheck$Kind") (n := "STOP") (d := "LScheduleCheck$Kind;") (v := .ref (ad 1109)) hx hb ((G.2.2.2.1.1 rfl).2.2.1.1 9 (by decide)).1 hw.2.2.1 hown (hts _ zn2_58) (fun _ h => h) d_Statement_init_5 ?_
  refine zk_putr (ci := 6) G hw 116 0 (by decide) (by decide) zi_6 t_zd6 t_zd6_ok n_zd6 rfl rfl rfl (by decide) rfl zn2_59 (fun _ h => h) rfl  (x := 1109) (by decide) (t_zd6_ok 0 (by decide)) rfl rfl d_Statement_init_8 (fun H locs hw => ?_)
  exact zk_vret G hw hr hlocks hQ d_Statement_init_11
def zk_f_Statement_init_117 (σ : zs_S) : zs_S := (zs_wr σ 117 0 1109)
set_option maxHeartbeats 8000000 in
set_option maxRecDepth 100000 in
theorem zk_Statement_init_117 {l : Launch} {D : va_G} {cA : Nat → ClassId} {ad : Nat → Nat} {A : Nat → Prop} {b : Nat} {σ : zs_S} (hJ : zs_J ad) (had : ∀ o, 1 ≤ o → o ≤ zd_M 2 → ad o = b + (o - 1)) (hA : ∀ q, b ≤ q → A q) : Met l y_Statement_init (.code y_Statement_init prog_8_method_1_code 1 none :: zd_ww) { frames := 1, cells := 0, slots := 0, locals := 30 } (va_Pc [.ref (ad 117)] (zk_U 2 D cA ad A b 117 σ)) (zk_Q 2 D cA ad A b 117 (zk_f_Statement_init_117 σ)) 0 0 A := by
  refine Met.ofW (cc := prog_8_method_1_code) (maxL := 1) (ret := none) (by decide) rfl ?_
  intro p e s m args below meth c s₁ B hml hv
  obtain ⟨hargs, hP, hK, hD, hZ, hz, hd, hO⟩ := hv
  have G : zk_G 2 p s m args c prog_8_method_1_code 1 "ScheduleCheck$Statement" D cA ad A b := ⟨⟨B.exec, B.bytes, hml, findClass_of_methodNamed B.named, fun w h => atoms_spec B.pre w (List.mem_cons_of_mem _ h)⟩, hK, hJ, hZ, had, hA, hO⟩
  have hw : zk_I 2 D cA ad A s b 117 σ s.heap [] := ⟨hP, hD, va_S.rf, hz, hd⟩
  have hx := G.1.1
  have hb := G.1.2.1
  have hown := G.1.2.2.2.1
  have hts := G.1.2.2.2.2
  have hr := B.returns
  have hlocks := B.notSynchronized
  have hin : meth.name = "<init>" := (name_of_methodNamed B.named B.method).1
  have he : entryFrame m args 1 = F0 m 0 ((lg_sl [.ref (ad 117)] ++ List.replicate (1 - (lg_sl [.ref (ad 117)]).length) Slot.unset).toArray) [] := by rw [hargs]; exact lg_entry_eq m _ 1
  have hl := lv_entry [.ref (ad 117)] (n := 1) (Nat.le_of_ble_eq_true rfl)
  rw [he]
  generalize (lg_sl [.ref (ad 117)] ++ List.replicate (1 - (lg_sl [.ref (ad 117)]).length) Slot.unset).toArray = ls at hl
  have hl : lv_has ls 1 [(0, .ref (ad 117))] := hl
  obtain ⟨RR, hR⟩ : ∃ z, z = (headSpec (.code y_Statement_init prog_8_method_1_code 1 none :: zd_ww) { frames := 1, cells := 0, slots := 0, locals := 30 }).room := ⟨_, rfl⟩
  rw [← hR]
  obtain ⟨QQ, hQ⟩ : ∃ z, z = MQ below (zk_Q 2 D cA ad A b 117 (zk_f_Statement_init_117 σ)) args s 0 0 A := ⟨_, rfl⟩
  rw [← hQ]
  have hR1 : 1 ≤ RR.frames := by rw [hR]; exact Nat.le_refl _
  have hR2 : 30 ≤ RR.locals := by rw [hR]; exact Nat.le_refl _
  have hR3 : 0 ≤ RR.cells := by rw [hR]; exact Nat.le_refl _
  have hR4 : 0 ≤ RR.slots := by rw [hR]; exact Nat.le_refl _
  generalize s.heap = H at hw ⊢
  generalize ([] : List Loc) = locs at hw ⊢
  refine lv_aload_n hx hb d_Statement_init_0 rfl (lv_at hl 0 rfl) ?_
  refine W.objInit hx hb hown (hts _ zn2_57) (hts _ zn2_1) (hts _ zn2_2) rfl (by rw [hml]; exact hl.1) rfl d_Statement_init_1 (Nat.le_trans (by decide) hR1) (Nat.le_trans (Nat.le_of_ble_eq_true rfl) hR2) ?_
  refine W.eq (g2 := F0 m 4 ls []) rfl ?_
  refine lv_aload_n hx hb d_Statement_init_4 rfl (lv_at hl 0 rfl) ?_
  refine va_gets (C := "ScheduleCheck$Kind") (n := "STOP") (d := "LScheduleCheck$Kind;") (v := .ref (ad 1109)) hx hb ((G.2.2.2.1.1 rfl).2.2.1.1 9 (by decide)).1 hw.2.2.1 hown (hts _ zn2_58) (fun _ h => h) d_Statement_init_5 ?_
  refine zk_putr (ci := 6) G hw 117 0 (by decide) (by decide) zi_6 t_zd6 t_zd6_ok n_zd6 rfl rfl rfl (by decide) rfl zn2_59 (fun _ h => h) rfl  (x := 1109) (by decide) (t_zd6_ok 0 (by decide)) rfl rfl d_Statement_init_8 (fun H locs hw => ?_)
  exact zk_vret G hw hr hlocks hQ d_Statement_init_11
def zk_f_Statement_init_118 (σ : zs_S) : zs_S := (zs_wr σ 118 0 1109)
set_option maxHeartbeats 8000000 in
set_option maxRecDepth 100000 in
theorem zk_Statement_init_118 {l : Launch} {D : va_G} {cA : Nat → ClassId} {ad : Nat → Nat} {A : Nat → Prop} {b : Nat} {σ : zs_S} (hJ : zs_J ad) (had : ∀ o, 1 ≤ o → o ≤ zd_M 2 → ad o = b + (o - 1)) (hA : ∀ q, b ≤ q → A q) : Met l y_Statement_init (.code y_Statement_init prog_8_method_1_code 1 none :: zd_ww) { frames := 1, cells := 0, slots := 0, locals := 30 } (va_Pc [.ref (ad 118)] (zk_U 2 D cA ad A b 118 σ)) (zk_Q 2 D cA ad A b 118 (zk_f_Statement_init_118 σ)) 0 0 A := by
  refine Met.ofW (cc := prog_8_method_1_code) (maxL := 1) (ret := none) (by decide) rfl ?_
  intro p e s m args below meth c s₁ B hml hv
  obtain ⟨hargs, hP, hK, hD, hZ, hz, hd, hO⟩ := hv
  have G : zk_G 2 p s m args c prog_8_method_1_code 1 "ScheduleCheck$Statement" D cA ad A b := ⟨⟨B.exec, B.bytes, hml, findClass_of_methodNamed B.named, fun w h => atoms_spec B.pre w (List.mem_cons_of_mem _ h)⟩, hK, hJ, hZ, had, hA, hO⟩
  have hw : zk_I 2 D cA ad A s b 118 σ s.heap [] := ⟨hP, hD, va_S.rf, hz, hd⟩
  have hx := G.1.1
  have hb := G.1.2.1
  have hown := G.1.2.2.2.1
  have hts := G.1.2.2.2.2
  have hr := B.returns
  have hlocks := B.notSynchronized
  have hin : meth.name = "<init>" := (name_of_methodNamed B.named B.method).1
  have he : entryFrame m args 1 = F0 m 0 ((lg_sl [.ref (ad 118)] ++ List.replicate (1 - (lg_sl [.ref (ad 118)]).length) Slot.unset).toArray) [] := by rw [hargs]; exact lg_entry_eq m _ 1
  have hl := lv_entry [.ref (ad 118)] (n := 1) (Nat.le_of_ble_eq_true rfl)
  rw [he]
  generalize (lg_sl [.ref (ad 118)] ++ List.replicate (1 - (lg_sl [.ref (ad 118)]).length) Slot.unset).toArray = ls at hl
  have hl : lv_has ls 1 [(0, .ref (ad 118))] := hl
  obtain ⟨RR, hR⟩ : ∃ z, z = (headSpec (.code y_Statement_init prog_8_method_1_code 1 none :: zd_ww) { frames := 1, cells := 0, slots := 0, locals := 30 }).room := ⟨_, rfl⟩
  rw [← hR]
  obtain ⟨QQ, hQ⟩ : ∃ z, z = MQ below (zk_Q 2 D cA ad A b 118 (zk_f_Statement_init_118 σ)) args s 0 0 A := ⟨_, rfl⟩
  rw [← hQ]
  have hR1 : 1 ≤ RR.frames := by rw [hR]; exact Nat.le_refl _
  have hR2 : 30 ≤ RR.locals := by rw [hR]; exact Nat.le_refl _
  have hR3 : 0 ≤ RR.cells := by rw [hR]; exact Nat.le_refl _
  have hR4 : 0 ≤ RR.slots := by rw [hR]; exact Nat.le_refl _
  generalize s.heap = H at hw ⊢
  generalize ([] : List Loc) = locs at hw ⊢
  refine lv_aload_n hx hb d_Statement_init_0 rfl (lv_at hl 0 rfl) ?_
  refine W.objInit hx hb hown (hts _ zn2_57) (hts _ zn2_1) (hts _ zn2_2) rfl (by rw [hml]; exact hl.1) rfl d_Statement_init_1 (Nat.le_trans (by decide) hR1) (Nat.le_trans (Nat.le_of_ble_eq_true rfl) hR2) ?_
  refine W.eq (g2 := F0 m 4 ls []) rfl ?_
  refine lv_aload_n hx hb d_Statement_init_4 rfl (lv_at hl 0 rfl) ?_
  refine va_gets (C := "ScheduleCheck$Kind") (n := "STOP") (d := "LScheduleCheck$Kind;") (v := .ref (ad 1109)) hx hb ((G.2.2.2.1.1 rfl).2.2.1.1 9 (by decide)).1 hw.2.2.1 hown (hts _ zn2_58) (fun _ h => h) d_Statement_init_5 ?_
  refine zk_putr (ci := 6) G hw 118 0 (by decide) (by decide) zi_6 t_zd6 t_zd6_ok n_zd6 rfl rfl rfl (by decide) rfl zn2_59 (fun _ h => h) rfl  (x := 1109) (by decide) (t_zd6_ok 0 (by decide)) rfl rfl d_Statement_init_8 (fun H locs hw => ?_)
  exact zk_vret G hw hr hlocks hQ d_Statement_init_11
def zk_f_Statement_init_119 (σ : zs_S) : zs_S := (zs_wr σ 119 0 1109)
set_option maxHeartbeats 8000000 in
set_option maxRecDepth 100000 in
theorem zk_Statement_init_119 {l : Launch} {D : va_G} {cA : Nat → ClassId} {ad : Nat → Nat} {A : Nat → Prop} {b : Nat} {σ : zs_S} (hJ : zs_J ad) (had : ∀ o, 1 ≤ o → o ≤ zd_M 2 → ad o = b + (o - 1)) (hA : ∀ q, b ≤ q → A q) : Met l y_Statement_init (.code y_Statement_init prog_8_method_1_code 1 none :: zd_ww) { frames := 1, cells := 0, slots := 0, locals := 30 } (va_Pc [.ref (ad 119)] (zk_U 2 D cA ad A b 119 σ)) (zk_Q 2 D cA ad A b 119 (zk_f_Statement_init_119 σ)) 0 0 A := by
  refine Met.ofW (cc := prog_8_method_1_code) (maxL := 1) (ret := none) (by decide) rfl ?_
  intro p e s m args below meth c s₁ B hml hv
  obtain ⟨hargs, hP, hK, hD, hZ, hz, hd, hO⟩ := hv
  have G : zk_G 2 p s m args c prog_8_method_1_code 1 "ScheduleCheck$Statement" D cA ad A b := ⟨⟨B.exec, B.bytes, hml, findClass_of_methodNamed B.named, fun w h => atoms_spec B.pre w (List.mem_cons_of_mem _ h)⟩, hK, hJ, hZ, had, hA, hO⟩
  have hw : zk_I 2 D cA ad A s b 119 σ s.heap [] := ⟨hP, hD, va_S.rf, hz, hd⟩
  have hx := G.1.1
  have hb := G.1.2.1
  have hown := G.1.2.2.2.1
  have hts := G.1.2.2.2.2
  have hr := B.returns
  have hlocks := B.notSynchronized
  have hin : meth.name = "<init>" := (name_of_methodNamed B.named B.method).1
  have he : entryFrame m args 1 = F0 m 0 ((lg_sl [.ref (ad 119)] ++ List.replicate (1 - (lg_sl [.ref (ad 119)]).length) Slot.unset).toArray) [] := by rw [hargs]; exact lg_entry_eq m _ 1
  have hl := lv_entry [.ref (ad 119)] (n := 1) (Nat.le_of_ble_eq_true rfl)
  rw [he]
  generalize (lg_sl [.ref (ad 119)] ++ List.replicate (1 - (lg_sl [.ref (ad 119)]).length) Slot.unset).toArray = ls at hl
  have hl : lv_has ls 1 [(0, .ref (ad 119))] := hl
  obtain ⟨RR, hR⟩ : ∃ z, z = (headSpec (.code y_Statement_init prog_8_method_1_code 1 none :: zd_ww) { frames := 1, cells := 0, slots := 0, locals := 30 }).room := ⟨_, rfl⟩
  rw [← hR]
  obtain ⟨QQ, hQ⟩ : ∃ z, z = MQ below (zk_Q 2 D cA ad A b 119 (zk_f_Statement_init_119 σ)) args s 0 0 A := ⟨_, rfl⟩
  rw [← hQ]
  have hR1 : 1 ≤ RR.frames := by rw [hR]; exact Nat.le_refl _
  have hR2 : 30 ≤ RR.locals := by rw [hR]; exact Nat.le_refl _
  have hR3 : 0 ≤ RR.cells := by rw [hR]; exact Nat.le_refl _
  have hR4 : 0 ≤ RR.slots := by rw [hR]; exact Nat.le_refl _
  generalize s.heap = H at hw ⊢
  generalize ([] : List Loc) = locs at hw ⊢
  refine lv_aload_n hx hb d_Statement_init_0 rfl (lv_at hl 0 rfl) ?_
  refine W.objInit hx hb hown (hts _ zn2_57) (hts _ zn2_1) (hts _ zn2_2) rfl (by rw [hml]; exact hl.1) rfl d_Statement_init_1 (Nat.le_trans (by decide) hR1) (Nat.le_trans (Nat.le_of_ble_eq_true rfl) hR2) ?_
  refine W.eq (g2 := F0 m 4 ls []) rfl ?_
  refine lv_aload_n hx hb d_Statement_init_4 rfl (lv_at hl 0 rfl) ?_
  refine va_gets (C := "ScheduleCheck$Kind") (n := "STOP") (d := "LScheduleCheck$Kind;") (v := .ref (ad 1109)) hx hb ((G.2.2.2.1.1 rfl).2.2.1.1 9 (by decide)).1 hw.2.2.1 hown (hts _ zn2_58) (fun _ h => h) d_Statement_init_5 ?_
  refine zk_putr (ci := 6) G hw 119 0 (by decide) (by decide) zi_6 t_zd6 t_zd6_ok n_zd6 rfl rfl rfl (by decide) rfl zn2_59 (fun _ h => h) rfl  (x := 1109) (by decide) (t_zd6_ok 0 (by decide)) rfl rfl d_Statement_init_8 (fun H locs hw => ?_)
  exact zk_vret G hw hr hlocks hQ d_Statement_init_11
def zk_f_Statement_init_120 (σ : zs_S) : zs_S := (zs_wr σ 120 0 1109)
set_option maxHeartbeats 8000000 in
set_option maxRecDepth 100000 in
theorem zk_Statement_init_120 {l : Launch} {D : va_G} {cA : Nat → ClassId} {ad : Nat → Nat} {A : Nat → Prop} {b : Nat} {σ : zs_S} (hJ : zs_J ad) (had : ∀ o, 1 ≤ o → o ≤ zd_M 2 → ad o = b + (o - 1)) (hA : ∀ q, b ≤ q → A q) : Met l y_Statement_init (.code y_Statement_init prog_8_method_1_code 1 none :: zd_ww) { frames := 1, cells := 0, slots := 0, locals := 30 } (va_Pc [.ref (ad 120)] (zk_U 2 D cA ad A b 120 σ)) (zk_Q 2 D cA ad A b 120 (zk_f_Statement_init_120 σ)) 0 0 A := by
  refine Met.ofW (cc := prog_8_method_1_code) (maxL := 1) (ret := none) (by decide) rfl ?_
  intro p e s m args below meth c s₁ B hml hv
  obtain ⟨hargs, hP, hK, hD, hZ, hz, hd, hO⟩ := hv
  have G : zk_G 2 p s m args c prog_8_method_1_code 1 "ScheduleCheck$Statement" D cA ad A b := ⟨⟨B.exec, B.bytes, hml, findClass_of_methodNamed B.named, fun w h => atoms_spec B.pre w (List.mem_cons_of_mem _ h)⟩, hK, hJ, hZ, had, hA, hO⟩
  have hw : zk_I 2 D cA ad A s b 120 σ s.heap [] := ⟨hP, hD, va_S.rf, hz, hd⟩
  have hx := G.1.1
  have hb := G.1.2.1
  have hown := G.1.2.2.2.1
  have hts := G.1.2.2.2.2
  have hr := B.returns
  have hlocks := B.notSynchronized
  have hin : meth.name = "<init>" := (name_of_methodNamed B.named B.method).1
  have he : entryFrame m args 1 = F0 m 0 ((lg_sl [.ref (ad 120)] ++ List.replicate (1 - (lg_sl [.ref (ad 120)]).length) Slot.unset).toArray) [] := by rw [hargs]; exact lg_entry_eq m _ 1
  have hl := lv_entry [.ref (ad 120)] (n := 1) (Nat.le_of_ble_eq_true rfl)
  rw [he]
  generalize (lg_sl [.ref (ad 120)] ++ List.replicate (1 - (lg_sl [.ref (ad 120)]).length) Slot.unset).toArray = ls at hl
  have hl : lv_has ls 1 [(0, .ref (ad 120))] := hl
  obtain ⟨RR, hR⟩ : ∃ z, z = (headSpec (.code y_Statement_init prog_8_method_1_code 1 none :: zd_ww) { frames := 1, cells := 0, slots := 0, locals := 30 }).room := ⟨_, rfl⟩
  rw [← hR]
  obtain ⟨QQ, hQ⟩ : ∃ z, z = MQ below (zk_Q 2 D cA ad A b 120 (zk_f_Statement_init_120 σ)) args s 0 0 A := ⟨_, rfl⟩
  rw [← hQ]
  have hR1 : 1 ≤ RR.frames := by rw [hR]; exact Nat.le_refl _
  have hR2 : 30 ≤ RR.locals := by rw [hR]; exact Nat.le_refl _
  have hR3 : 0 ≤ RR.cells := by rw [hR]; exact Nat.le_refl _
  have hR4 : 0 ≤ RR.slots := by rw [hR]; exact Nat.le_refl _
  generalize s.heap = H at hw ⊢
  generalize ([] : List Loc) = locs at hw ⊢
  refine lv_aload_n hx hb d_Statement_init_0 rfl (lv_at hl 0 rfl) ?_
  refine W.objInit hx hb hown (hts _ zn2_57) (hts _ zn2_1) (hts _ zn2_2) rfl (by rw [hml]; exact hl.1) rfl d_Statement_init_1 (Nat.le_trans (by decide) hR1) (Nat.le_trans (Nat.le_of_ble_eq_true rfl) hR2) ?_
  refine W.eq (g2 := F0 m 4 ls []) rfl ?_
  refine lv_aload_n hx hb d_Statement_init_4 rfl (lv_at hl 0 rfl) ?_
  refine va_gets (C := "ScheduleCheck$Kind") (n := "STOP") (d := "LScheduleCheck$Kind;") (v := .ref (ad 1109)) hx hb ((G.2.2.2.1.1 rfl).2.2.1.1 9 (by decide)).1 hw.2.2.1 hown (hts _ zn2_58) (fun _ h => h) d_Statement_init_5 ?_
  refine zk_putr (ci := 6) G hw 120 0 (by decide) (by decide) zi_6 t_zd6 t_zd6_ok n_zd6 rfl rfl rfl (by decide) rfl zn2_59 (fun _ h => h) rfl  (x := 1109) (by decide) (t_zd6_ok 0 (by decide)) rfl rfl d_Statement_init_8 (fun H locs hw => ?_)
  exact zk_vret G hw hr hlocks hQ d_Statement_init_11
def zk_f_Statement_init_121 (σ : zs_S) : zs_S := (zs_wr σ 121 0 1109)
set_option maxHeartbeats 8000000 in
set_option maxRecDepth 100000 in
theorem zk_Statement_init_121 {l : Launch} {D : va_G} {cA : Nat → ClassId} {ad : Nat → Nat} {A : Nat → Prop} {b : Nat} {σ : zs_S} (hJ : zs_J ad) (had : ∀ o, 1 ≤ o → o ≤ zd_M 2 → ad o = b + (o - 1)) (hA : ∀ q, b ≤ q → A q) : Met l y_Statement_init (.code y_Statement_init prog_8_method_1_code 1 none :: zd_ww) { frames := 1, cells := 0, slots := 0, locals := 30 } (va_Pc [.ref (ad 121)] (zk_U 2 D cA ad A b 121 σ)) (zk_Q 2 D cA ad A b 121 (zk_f_Statement_init_121 σ)) 0 0 A := by
  refine Met.ofW (cc := prog_8_method_1_code) (maxL := 1) (ret := none) (by decide) rfl ?_
  intro p e s m args below meth c s₁ B hml hv
  obtain ⟨hargs, hP, hK, hD, hZ, hz, hd, hO⟩ := hv
  have G : zk_G 2 p s m args c prog_8_method_1_code 1 "ScheduleCheck$Statement" D cA ad A b := ⟨⟨B.exec, B.bytes, hml, findClass_of_methodNamed B.named, fun w h => atoms_spec B.pre w (List.mem_cons_of_mem _ h)⟩, hK, hJ, hZ, had, hA, hO⟩
  have hw : zk_I 2 D cA ad A s b 121 σ s.heap [] := ⟨hP, hD, va_S.rf, hz, hd⟩
  have hx := G.1.1
  have hb := G.1.2.1
  have hown := G.1.2.2.2.1
  have hts := G.1.2.2.2.2
  have hr := B.returns
  have hlocks := B.notSynchronized
  have hin : meth.name = "<init>" := (name_of_methodNamed B.named B.method).1
  have he : entryFrame m args 1 = F0 m 0 ((lg_sl [.ref (ad 121)] ++ List.replicate (1 - (lg_sl [.ref (ad 121)]).length) Slot.unset).toArray) [] := by rw [hargs]; exact lg_entry_eq m _ 1
  have hl := lv_entry [.ref (ad 121)] (n := 1) (Nat.le_of_ble_eq_true rfl)
  rw [he]
  generalize (lg_sl [.ref (ad 121)] ++ List.replicate (1 - (lg_sl [.ref (ad 121)]).length) Slot.unset).toArray = ls at hl
  have hl : lv_has ls 1 [(0, .ref (ad 121))] := hl
  obtain ⟨RR, hR⟩ : ∃ z, z = (headSpec (.code y_Statement_init prog_8_method_1_code 1 none :: zd_ww) { frames := 1, cells := 0, slots := 0, locals := 30 }).room := ⟨_, rfl⟩
  rw [← hR]
  obtain ⟨QQ, hQ⟩ : ∃ z, z = MQ below (zk_Q 2 D cA ad A b 121 (zk_f_Statement_init_121 σ)) args s 0 0 A := ⟨_, rfl⟩
  rw [← hQ]
  have hR1 : 1 ≤ RR.frames := by rw [hR]; exact Nat.le_refl _
  have hR2 : 30 ≤ RR.locals := by rw [hR]; exact Nat.le_refl _
  have hR3 : 0 ≤ RR.cells := by rw [hR]; exact Nat.le_refl _
  have hR4 : 0 ≤ RR.slots := by rw [hR]; exact Nat.le_refl _
  generalize s.heap = H at hw ⊢
  generalize ([] : List Loc) = locs at hw ⊢
  refine lv_aload_n hx hb d_Statement_init_0 rfl (lv_at hl 0 rfl) ?_
  refine W.objInit hx hb hown (hts _ zn2_57) (hts _ zn2_1) (hts _ zn2_2) rfl (by rw [hml]; exact hl.1) rfl d_Statement_init_1 (Nat.le_trans (by decide) hR1) (Nat.le_trans (Nat.le_of_ble_eq_true rfl) hR2) ?_
  refine W.eq (g2 := F0 m 4 ls []) rfl ?_
  refine lv_aload_n hx hb d_Statement_init_4 rfl (lv_at hl 0 rfl) ?_
  refine va_gets (C := "ScheduleCheck$Kind") (n := "STOP") (d := "LScheduleCheck$Kind;") (v := .ref (ad 1109)) hx hb ((G.2.2.2.1.1 rfl).2.2.1.1 9 (by decide)).1 hw.2.2.1 hown (hts _ zn2_58) (fun _ h => h) d_Statement_init_5 ?_
  refine zk_putr (ci := 6) G hw 121 0 (by decide) (by decide) zi_6 t_zd6 t_zd6_ok n_zd6 rfl rfl rfl (by decide) rfl zn2_59 (fun _ h => h) rfl  (x := 1109) (by decide) (t_zd6_ok 0 (by decide)) rfl rfl d_Statement_init_8 (fun H locs hw => ?_)
  exact zk_vret G hw hr hlocks hQ d_Statement_init_11
def zk_f_Statement_init_122 (σ : zs_S) : zs_S := (zs_wr σ 122 0 1109)
set_option maxHeartbeats 8000000 in
set_option maxRecDepth 100000 in
theorem zk_Statement_init_122 {l : Launch} {D : va_G} {cA : Nat → ClassId} {ad : Nat → Nat} {A : Nat → Prop} {b : Nat} {σ : zs_S} (hJ : zs_J ad) (had : ∀ o, 1 ≤ o → o ≤ zd_M 2 → ad o = b + (o - 1)) (hA : ∀ q, b ≤ q → A q) : Met l y_Statement_init (.code y_Statement_init prog_8_method_1_code 1 none :: zd_ww) { frames := 1, cells := 0, slots := 0, locals := 30 } (va_Pc [.ref (ad 122)] (zk_U 2 D cA ad A b 122 σ)) (zk_Q 2 D cA ad A b 122 (zk_f_Statement_init_122 σ)) 0 0 A := by
  refine Met.ofW (cc := prog_8_method_1_code) (maxL := 1) (ret := none) (by decide) rfl ?_
  intro p e s m args below meth c s₁ B hml hv
  obtain ⟨hargs, hP, hK, hD, hZ, hz, hd, hO⟩ := hv
  have G : zk_G 2 p s m args c prog_8_method_1_code 1 "ScheduleCheck$Statement" D cA ad A b := ⟨⟨B.exec, B.bytes, hml, findClass_of_methodNamed B.named, fun w h => atoms_spec B.pre w (List.mem_cons_of_mem _ h)⟩, hK, hJ, hZ, had, hA, hO⟩
  have hw : zk_I 2 D cA ad A s b 122 σ s.heap [] := ⟨hP, hD, va_S.rf, hz, hd⟩
  have hx := G.1.1
  have hb := G.1.2.1
  have hown := G.1.2.2.2.1
  have hts := G.1.2.2.2.2
  have hr := B.returns
  have hlocks := B.notSynchronized
  have hin : meth.name = "<init>" := (name_of_methodNamed B.named B.method).1
  have he : entryFrame m args 1 = F0 m 0 ((lg_sl [.ref (ad 122)] ++ List.replicate (1 - (lg_sl [.ref (ad 122)]).length) Slot.unset).toArray) [] := by rw [hargs]; exact lg_entry_eq m _ 1
  have hl := lv_entry [.ref (ad 122)] (n := 1) (Nat.le_of_ble_eq_true rfl)
  rw [he]
  generalize (lg_sl [.ref (ad 122)] ++ List.replicate (1 - (lg_sl [.ref (ad 122)]).length) Slot.unset).toArray = ls at hl
  have hl : lv_has ls 1 [(0, .ref (ad 122))] := hl
  obtain ⟨RR, hR⟩ : ∃ z, z = (headSpec (.code y_Statement_init prog_8_method_1_code 1 none :: zd_ww) { frames := 1, cells := 0, slots := 0, locals := 30 }).room := ⟨_, rfl⟩
  rw [← hR]
  obtain ⟨QQ, hQ⟩ : ∃ z, z = MQ below (zk_Q 2 D cA ad A b 122 (zk_f_Statement_init_122 σ)) args s 0 0 A := ⟨_, rfl⟩
  rw [← hQ]
  have hR1 : 1 ≤ RR.frames := by rw [hR]; exact Nat.le_refl _
  have hR2 : 30 ≤ RR.locals := by rw [hR]; exact Nat.le_refl _
  have hR3 : 0 ≤ RR.cells := by rw [hR]; exact Nat.le_refl _
  have hR4 : 0 ≤ RR.slots := by rw [hR]; exact Nat.le_refl _
  generalize s.heap = H at hw ⊢
  generalize ([] : List Loc) = locs at hw ⊢
  refine lv_aload_n hx hb d_Statement_init_0 rfl (lv_at hl 0 rfl) ?_
  refine W.objInit hx hb hown (hts _ zn2_57) (hts _ zn2_1) (hts _ zn2_2) rfl (by rw [hml]; exact hl.1) rfl d_Statement_init_1 (Nat.le_trans (by decide) hR1) (Nat.le_trans (Nat.le_of_ble_eq_true rfl) hR2) ?_
  refine W.eq (g2 := F0 m 4 ls []) rfl ?_
  refine lv_aload_n hx hb d_Statement_init_4 rfl (lv_at hl 0 rfl) ?_
  refine va_gets (C := "ScheduleCheck$Kind") (n := "STOP") (d := "LScheduleCheck$Kind;") (v := .ref (ad 1109)) hx hb ((G.2.2.2.1.1 rfl).2.2.1.1 9 (by decide)).1 hw.2.2.1 hown (hts _ zn2_58) (fun _ h => h) d_Statement_init_5 ?_
  refine zk_putr (ci := 6) G hw 122 0 (by decide) (by decide) zi_6 t_zd6 t_zd6_ok n_zd6 rfl rfl rfl (by decide) rfl zn2_59 (fun _ h => h) rfl  (x := 1109) (by decide) (t_zd6_ok 0 (by decide)) rfl rfl d_Statement_init_8 (fun H locs hw => ?_)
  exact zk_vret G hw hr hlocks hQ d_Statement_init_11
def zk_f_Statement_init_123 (σ : zs_S) : zs_S := (zs_wr σ 123 0 1109)
set_option maxHeartbeats 8000000 in
set_option maxRecDepth 100000 in
theorem zk_Statement_init_123 {l : Launch} {D : va_G} {cA : Nat → ClassId} {ad : Nat → Nat} {A : Nat → Prop} {b : Nat} {σ : zs_S} (hJ : zs_J ad) (had : ∀ o, 1 ≤ o → o ≤ zd_M 2 → ad o = b + (o - 1)) (hA : ∀ q, b ≤ q → A q) : Met l y_Statement_init (.code y_Statement_init prog_8_method_1_code 1 none :: zd_ww) { frames := 1, cells := 0, slots := 0, locals := 30 } (va_Pc [.ref (ad 123)] (zk_U 2 D cA ad A b 123 σ)) (zk_Q 2 D cA ad A b 123 (zk_f_Statement_init_123 σ)) 0 0 A := by
  refine Met.ofW (cc := prog_8_method_1_code) (maxL := 1) (ret := none) (by decide) rfl ?_
  intro p e s m args below meth c s₁ B hml hv
  obtain ⟨hargs, hP, hK, hD, hZ, hz, hd, hO⟩ := hv
  have G : zk_G 2 p s m args c prog_8_method_1_code 1 "ScheduleCheck$Statement" D cA ad A b := ⟨⟨B.exec, B.bytes, hml, findClass_of_methodNamed B.named, fun w h => atoms_spec B.pre w (List.mem_cons_of_mem _ h)⟩, hK, hJ, hZ, had, hA, hO⟩
  have hw : zk_I 2 D cA ad A s b 123 σ s.heap [] := ⟨hP, hD, va_S.rf, hz, hd⟩
  have hx := G.1.1
  have hb := G.1.2.1
  have hown := G.1.2.2.2.1
  have hts := G.1.2.2.2.2
  have hr := B.returns
  have hlocks := B.notSynchronized
  have hin : meth.name = "<init>" := (name_of_methodNamed B.named B.method).1
  have he : entryFrame m args 1 = F0 m 0 ((lg_sl [.ref (ad 123)] ++ List.replicate (1 - (lg_sl [.ref (ad 123)]).length) Slot.unset).toArray) [] := by rw [hargs]; exact lg_entry_eq m _ 1
  have hl := lv_entry [.ref (ad 123)] (n := 1) (Nat.le_of_ble_eq_true rfl)
  rw [he]
  generalize (lg_sl [.ref (ad 123)] ++ List.replicate (1 - (lg_sl [.ref (ad 123)]).length) Slot.unset).toArray = ls at hl
  have hl : lv_has ls 1 [(0, .ref (ad 123))] := hl
  obtain ⟨RR, hR⟩ : ∃ z, z = (headSpec (.code y_Statement_init prog_8_method_1_code 1 none :: zd_ww) { frames := 1, cells := 0, slots := 0, locals := 30 }).room := ⟨_, rfl⟩
  rw [← hR]
  obtain ⟨QQ, hQ⟩ : ∃ z, z = MQ below (zk_Q 2 D cA ad A b 123 (zk_f_Statement_init_123 σ)) args s 0 0 A := ⟨_, rfl⟩
  rw [← hQ]
  have hR1 : 1 ≤ RR.frames := by rw [hR]; exact Nat.le_refl _
  have hR2 : 30 ≤ RR.locals := by rw [hR]; exact Nat.le_refl _
  have hR3 : 0 ≤ RR.cells := by rw [hR]; exact Nat.le_refl _
  have hR4 : 0 ≤ RR.slots := by rw [hR]; exact Nat.le_refl _
  generalize s.heap = H at hw ⊢
  generalize ([] : List Loc) = locs at hw ⊢
  refine lv_aload_n hx hb d_Statement_init_0 rfl (lv_at hl 0 rfl) ?_
  refine W.objInit hx hb hown (hts _ zn2_57) (hts _ zn2_1) (hts _ zn2_2) rfl (by rw [hml]; exact hl.1) rfl d_Statement_init_1 (Nat.le_trans (by decide) hR1) (Nat.le_trans (Nat.le_of_ble_eq_true rfl) hR2) ?_
  refine W.eq (g2 := F0 m 4 ls []) rfl ?_
  refine lv_aload_n hx hb d_Statement_init_4 rfl (lv_at hl 0 rfl) ?_
  refine va_gets (C := "ScheduleCheck$Kind") (n := "STOP") (d := "LScheduleCheck$Kind;") (v := .ref (ad 1109)) hx hb ((G.2.2.2.1.1 rfl).2.2.1.1 9 (by decide)).1 hw.2.2.1 hown (hts _ zn2_58) (fun _ h => h) d_Statement_init_5 ?_
  refine zk_putr (ci := 6) G hw 123 0 (by decide) (by decide) zi_6 t_zd6 t_zd6_ok n_zd6 rfl rfl rfl (by decide) rfl zn2_59 (fun _ h => h) rfl  (x := 1109) (by decide) (t_zd6_ok 0 (by decide)) rfl rfl d_Statement_init_8 (fun H locs hw => ?_)
  exact zk_vret G hw hr hlocks hQ d_Statement_init_11
def zk_f_Statement_init_124 (σ : zs_S) : zs_S := (zs_wr σ 124 0 1109)
set_option maxHeartbeats 8000000 in
set_option maxRecDepth 100000 in
theorem zk_Statement_init_124 {l : Launch} {D : va_G} {cA : Nat → ClassId} {ad : Nat → Nat} {A : Nat → Prop} {b : Nat} {σ : zs_S} (hJ : zs_J ad) (had : ∀ o, 1 ≤ o → o ≤ zd_M 2 → ad o = b + (o - 1)) (hA : ∀ q, b ≤ q → A q) : Met l y_Statement_init (.code y_Statement_init prog_8_method_1_code 1 none :: zd_ww) { frames := 1, cells := 0, slots := 0, locals := 30 } (va_Pc [.ref (ad 124)] (zk_U 2 D cA ad A b 124 σ)) (zk_Q 2 D cA ad A b 124 (zk_f_Statement_init_124 σ)) 0 0 A := by
  refine Met.ofW (cc := prog_8_method_1_code) (maxL := 1) (ret := none) (by decide) rfl ?_
  intro p e s m args below meth c s₁ B hml hv
  obtain ⟨hargs, hP, hK, hD, hZ, hz, hd, hO⟩ := hv
  have G : zk_G 2 p s m args c prog_8_method_1_code 1 "ScheduleCheck$Statement" D cA ad A b := ⟨⟨B.exec, B.bytes, hml, findClass_of_methodNamed B.named, fun w h => atoms_spec B.pre w (List.mem_cons_of_mem _ h)⟩, hK, hJ, hZ, had, hA, hO⟩
  have hw : zk_I 2 D cA ad A s b 124 σ s.heap [] := ⟨hP, hD, va_S.rf, hz, hd⟩
  have hx := G.1.1
  have hb := G.1.2.1
  have hown := G.1.2.2.2.1
  have hts := G.1.2.2.2.2
  have hr := B.returns
  have hlocks := B.notSynchronized
  have hin : meth.name = "<init>" := (name_of_methodNamed B.named B.method).1
  have he : entryFrame m args 1 = F0 m 0 ((lg_sl [.ref (ad 124)] ++ List.replicate (1 - (lg_sl [.ref (ad 124)]).length) Slot.unset).toArray) [] := by rw [hargs]; exact lg_entry_eq m _ 1
  have hl := lv_entry [.ref (ad 124)] (n := 1) (Nat.le_of_ble_eq_true rfl)
  rw [he]
  generalize (lg_sl [.ref (ad 124)] ++ List.replicate (1 - (lg_sl [.ref (ad 124)]).length) Slot.unset).toArray = ls at hl
  have hl : lv_has ls 1 [(0, .ref (ad 124))] := hl
  obtain ⟨RR, hR⟩ : ∃ z, z = (headSpec (.code y_Statement_init prog_8_method_1_code 1 none :: zd_ww) { frames := 1, cells := 0, slots := 0, locals := 30 }).room := ⟨_, rfl⟩
  rw [← hR]
  obtain ⟨QQ, hQ⟩ : ∃ z, z = MQ below (zk_Q 2 D cA ad A b 124 (zk_f_Statement_init_124 σ)) args s 0 0 A := ⟨_, rfl⟩
  rw [← hQ]
  have hR1 : 1 ≤ RR.frames := by rw [hR]; exact Nat.le_refl _
  have hR2 : 30 ≤ RR.locals := by rw [hR]; exact Nat.le_refl _
  have hR3 : 0 ≤ RR.cells := by rw [hR]; exact Nat.le_refl _
  have hR4 : 0 ≤ RR.slots := by rw [hR]; exact Nat.le_refl _
  generalize s.heap = H at hw ⊢
  generalize ([] : List Loc) = locs at hw ⊢
  refine lv_aload_n hx hb d_Statement_init_0 rfl (lv_at hl 0 rfl) ?_
  refine W.objInit hx hb hown (hts _ zn2_57) (hts _ zn2_1) (hts _ zn2_2) rfl (by rw [hml]; exact hl.1) rfl d_Statement_init_1 (Nat.le_trans (by decide) hR1) (Nat.le_trans (Nat.le_of_ble_eq_true rfl) hR2) ?_
  refine W.eq (g2 := F0 m 4 ls []) rfl ?_
  refine lv_aload_n hx hb d_Statement_init_4 rfl (lv_at hl 0 rfl) ?_
  refine va_gets (C := "ScheduleCheck$Kind") (n := "STOP") (d := "LScheduleCheck$Kind;") (v := .ref (ad 1109)) hx hb ((G.2.2.2.1.1 rfl).2.2.1.1 9 (by decide)).1 hw.2.2.1 hown (hts _ zn2_58) (fun _ h => h) d_Statement_init_5 ?_
  refine zk_putr (ci := 6) G hw 124 0 (by decide) (by decide) zi_6 t_zd6 t_zd6_ok n_zd6 rfl rfl rfl (by decide) rfl zn2_59 (fun _ h => h) rfl  (x := 1109) (by decide) (t_zd6_ok 0 (by decide)) rfl rfl d_Statement_init_8 (fun H locs hw => ?_)
  exact zk_vret G hw hr hlocks hQ d_Statement_init_11
def zk_f_Statement_init_125 (σ : zs_S) : zs_S := (zs_wr σ 125 0 1109)
set_option maxHeartbeats 8000000 in
set_option maxRecDepth 100000 in
theorem zk_Statement_init_125 {l : Launch} {D : va_G} {cA : Nat → ClassId} {ad : Nat → Nat} {A : Nat → Prop} {b : Nat} {σ : zs_S} (hJ : zs_J ad) (had : ∀ o, 1 ≤ o → o ≤ zd_M 2 → ad o = b + (o - 1)) (hA : ∀ q, b ≤ q → A q) : Met l y_Statement_init (.code y_Statement_init prog_8_method_1_code 1 none :: zd_ww) { frames := 1, cells := 0, slots := 0, locals := 30 } (va_Pc [.ref (ad 125)] (zk_U 2 D cA ad A b 125 σ)) (zk_Q 2 D cA ad A b 125 (zk_f_Statement_init_125 σ)) 0 0 A := by
  refine Met.ofW (cc := prog_8_method_1_code) (maxL := 1) (ret := none) (by decide) rfl ?_
  intro p e s m args below meth c s₁ B hml hv
  obtain ⟨hargs, hP, hK, hD, hZ, hz, hd, hO⟩ := hv
  have G : zk_G 2 p s m args c prog_8_method_1_code 1 "ScheduleCheck$Statement" D cA ad A b := ⟨⟨B.exec, B.bytes, hml, findClass_of_methodNamed B.named, fun w h => atoms_spec B.pre w (List.mem_cons_of_mem _ h)⟩, hK, hJ, hZ, had, hA, hO⟩
  have hw : zk_I 2 D cA ad A s b 125 σ s.heap [] := ⟨hP, hD, va_S.rf, hz, hd⟩
  have hx := G.1.1
  have hb := G.1.2.1
  have hown := G.1.2.2.2.1
  have hts := G.1.2.2.2.2
  have hr := B.returns
  have hlocks := B.notSynchronized
  have hin : meth.name = "<init>" := (name_of_methodNamed B.named B.method).1
  have he : entryFrame m args 1 = F0 m 0 ((lg_sl [.ref (ad 125)] ++ List.replicate (1 - (lg_sl [.ref (ad 125)]).length) Slot.unset).toArray) [] := by rw [hargs]; exact lg_entry_eq m _ 1
  have hl := lv_entry [.ref (ad 125)] (n := 1) (Nat.le_of_ble_eq_true rfl)
  rw [he]
  generalize (lg_sl [.ref (ad 125)] ++ List.replicate (1 - (lg_sl [.ref (ad 125)]).length) Slot.unset).toArray = ls at hl
  have hl : lv_has ls 1 [(0, .ref (ad 125))] := hl
  obtain ⟨RR, hR⟩ : ∃ z, z = (headSpec (.code y_Statement_init prog_8_method_1_code 1 none :: zd_ww) { frames := 1, cells := 0, slots := 0, locals := 30 }).room := ⟨_, rfl⟩
  rw [← hR]
  obtain ⟨QQ, hQ⟩ : ∃ z, z = MQ below (zk_Q 2 D cA ad A b 125 (zk_f_Statement_init_125 σ)) args s 0 0 A := ⟨_, rfl⟩
  rw [← hQ]
  have hR1 : 1 ≤ RR.frames := by rw [hR]; exact Nat.le_refl _
  have hR2 : 30 ≤ RR.locals := by rw [hR]; exact Nat.le_refl _
  have hR3 : 0 ≤ RR.cells := by rw [hR]; exact Nat.le_refl _
  have hR4 : 0 ≤ RR.slots := by rw [hR]; exact Nat.le_refl _
  generalize s.heap = H at hw ⊢
  generalize ([] : List Loc) = locs at hw ⊢
  refine lv_aload_n hx hb d_Statement_init_0 rfl (lv_at hl 0 rfl) ?_
  refine W.objInit hx hb hown (hts _ zn2_57) (hts _ zn2_1) (hts _ zn2_2) rfl (by rw [hml]; exact hl.1) rfl d_Statement_init_1 (Nat.le_trans (by decide) hR1) (Nat.le_trans (Nat.le_of_ble_eq_true rfl) hR2) ?_
  refine W.eq (g2 := F0 m 4 ls []) rfl ?_
  refine lv_aload_n hx hb d_Statement_init_4 rfl (lv_at hl 0 rfl) ?_
  refine va_gets (C := "ScheduleCheck$Kind") (n := "STOP") (d := "LScheduleCheck$Kind;") (v := .ref (ad 1109)) hx hb ((G.2.2.2.1.1 rfl).2.2.1.1 9 (by decide)).1 hw.2.2.1 hown (hts _ zn2_58) (fun _ h => h) d_Statement_init_5 ?_
  refine zk_putr (ci := 6) G hw 125 0 (by decide) (by decide) zi_6 t_zd6 t_zd6_ok n_zd6 rfl rfl rfl (by decide) rfl zn2_59 (fun _ h => h) rfl  (x := 1109) (by decide) (t_zd6_ok 0 (by decide)) rfl rfl d_Statement_init_8 (fun H locs hw => ?_)
  exact zk_vret G hw hr hlocks hQ d_Statement_init_11
def zk_f_Statement_init_126 (σ : zs_S) : zs_S := (zs_wr σ 126 0 1109)
set_option maxHeartbeats 8000000 in
set_option maxRecDepth 100000 in
theorem zk_Statement_init_126 {l : Launch} {D : va_G} {cA : Nat → ClassId} {ad : Nat → Nat} {A : Nat → Prop} {b : Nat} {σ : zs_S} (hJ : zs_J ad) (had : ∀ o, 1 ≤ o → o ≤ zd_M 2 → ad o = b + (o - 1)) (hA : ∀ q, b ≤ q → A q) : Met l y_Statement_init (.code y_Statement_init prog_8_method_1_code 1 none :: zd_ww) { frames := 1, cells := 0, slots := 0, locals := 30 } (va_Pc [.ref (ad 126)] (zk_U 2 D cA ad A b 126 σ)) (zk_Q 2 D cA ad A b 126 (zk_f_Statement_init_126 σ)) 0 0 A := by
  refine Met.ofW (cc := prog_8_method_1_code) (maxL := 1) (ret := none) (by decide) rfl ?_
  intro p e s m args below meth c s₁ B hml hv
  obtain ⟨hargs, hP, hK, hD, hZ, hz, hd, hO⟩ := hv
  have G : zk_G 2 p s m args c prog_8_method_1_code 1 "ScheduleCheck$Statement" D cA ad A b := ⟨⟨B.exec, B.bytes, hml, findClass_of_methodNamed B.named, fun w h => atoms_spec B.pre w (List.mem_cons_of_mem _ h)⟩, hK, hJ, hZ, had, hA, hO⟩
  have hw : zk_I 2 D cA ad A s b 126 σ s.heap [] := ⟨hP, hD, va_S.rf, hz, hd⟩
  have hx := G.1.1
  have hb := G.1.2.1
  have hown := G.1.2.2.2.1
  have hts := G.1.2.2.2.2
  have hr := B.returns
  have hlocks := B.notSynchronized
  have hin : meth.name = "<init>" := (name_of_methodNamed B.named B.method).1
  have he : entryFrame m args 1 = F0 m 0 ((lg_sl [.ref (ad 126)] ++ List.replicate (1 - (lg_sl [.ref (ad 126)]).length) Slot.unset).toArray) [] := by rw [hargs]; exact lg_entry_eq m _ 1
  have hl := lv_entry [.ref (ad 126)] (n := 1) (Nat.le_of_ble_eq_true rfl)
  rw [he]
  generalize (lg_sl [.ref (ad 126)] ++ List.replicate (1 - (lg_sl [.ref (ad 126)]).length) Slot.unset).toArray = ls at hl
  have hl : lv_has ls 1 [(0, .ref (ad 126))] := hl
  obtain ⟨RR, hR⟩ : ∃ z, z = (headSpec (.code y_Statement_init prog_8_method_1_code 1 none :: zd_ww) { frames := 1, cells := 0, slots := 0, locals := 30 }).room := ⟨_, rfl⟩
  rw [← hR]
  obtain ⟨QQ, hQ⟩ : ∃ z, z = MQ below (zk_Q 2 D cA ad A b 126 (zk_f_Statement_init_126 σ)) args s 0 0 A := ⟨_, rfl⟩
  rw [← hQ]
  have hR1 : 1 ≤ RR.frames := by rw [hR]; exact Nat.le_refl _
  have hR2 : 30 ≤ RR.locals := by rw [hR]; exact Nat.le_refl _
  have hR3 : 0 ≤ RR.cells := by rw [hR]; exact Nat.le_refl _
  have hR4 : 0 ≤ RR.slots := by rw [hR]; exact Nat.le_refl _
  generalize s.heap = H at hw ⊢
  generalize ([] : List Loc) = locs at hw ⊢
  refine lv_aload_n hx hb d_Statement_init_0 rfl (lv_at hl 0 rfl) ?_
  refine W.objInit hx hb hown (hts _ zn2_57) (hts _ zn2_1) (hts _ zn2_2) rfl (by rw [hml]; exact hl.1) rfl d_Statement_init_1 (Nat.le_trans (by decide) hR1) (Nat.le_trans (Nat.le_of_ble_eq_true rfl) hR2) ?_
  refine W.eq (g2 := F0 m 4 ls []) rfl ?_
  refine lv_aload_n hx hb d_Statement_init_4 rfl (lv_at hl 0 rfl) ?_
  refine va_gets (C := "ScheduleCheck$Kind") (n := "STOP") (d := "LScheduleCheck$Kind;") (v := .ref (ad 1109)) hx hb ((G.2.2.2.1.1 rfl).2.2.1.1 9 (by decide)).1 hw.2.2.1 hown (hts _ zn2_58) (fun _ h => h) d_Statement_init_5 ?_
  refine zk_putr (ci := 6) G hw 126 0 (by decide) (by decide) zi_6 t_zd6 t_zd6_ok n_zd6 rfl rfl rfl (by decide) rfl zn2_59 (fun _ h => h) rfl  (x := 1109) (by decide) (t_zd6_ok 0 (by decide)) rfl rfl d_Statement_init_8 (fun H locs hw => ?_)
  exact zk_vret G hw hr hlocks hQ d_Statement_init_11
def zk_f_Statement_init_127 (σ : zs_S) : zs_S := (zs_wr σ 127 0 1109)
set_option maxHeartbeats 8000000 in
set_option maxRecDepth 100000 in
theorem zk_Statement_init_127 {l : Launch} {D : va_G} {cA : Nat → ClassId} {ad : Nat → Nat} {A : Nat → Prop} {b : Nat} {σ : zs_S} (hJ : zs_J ad) (had : ∀ o, 1 ≤ o → o ≤ zd_M 2 → ad o = b + (o - 1)) (hA : ∀ q, b ≤ q → A q) : Met l y_Statement_init (.code y_Statement_init prog_8_method_1_code 1 none :: zd_ww) { frames := 1, cells := 0, slots := 0, locals := 30 } (va_Pc [.ref (ad 127)] (zk_U 2 D cA ad A b 127 σ)) (zk_Q 2 D cA ad A b 127 (zk_f_Statement_init_127 σ)) 0 0 A := by
  refine Met.ofW (cc := prog_8_method_1_code) (maxL := 1) (ret := none) (by decide) rfl ?_
  intro p e s m args below meth c s₁ B hml hv
  obtain ⟨hargs, hP, hK, hD, hZ, hz, hd, hO⟩ := hv
  have G : zk_G 2 p s m args c prog_8_method_1_code 1 "ScheduleCheck$Statement" D cA ad A b := ⟨⟨B.exec, B.bytes, hml, findClass_of_methodNamed B.named, fun w h => atoms_spec B.pre w (List.mem_cons_of_mem _ h)⟩, hK, hJ, hZ, had, hA, hO⟩
  have hw : zk_I 2 D cA ad A s b 127 σ s.heap [] := ⟨hP, hD, va_S.rf, hz, hd⟩
  have hx := G.1.1
  have hb := G.1.2.1
  have hown := G.1.2.2.2.1
  have hts := G.1.2.2.2.2
  have hr := B.returns
  have hlocks := B.notSynchronized
  have hin : meth.name = "<init>" := (name_of_methodNamed B.named B.method).1
  have he : entryFrame m args 1 = F0 m 0 ((lg_sl [.ref (ad 127)] ++ List.replicate (1 - (lg_sl [.ref (ad 127)]).length) Slot.unset).toArray) [] := by rw [hargs]; exact lg_entry_eq m _ 1
  have hl := lv_entry [.ref (ad 127)] (n := 1) (Nat.le_of_ble_eq_true rfl)
  rw [he]
  generalize (lg_sl [.ref (ad 127)] ++ List.replicate (1 - (lg_sl [.ref (ad 127)]).length) Slot.unset).toArray = ls at hl
  have hl : lv_has ls 1 [(0, .ref (ad 127))] := hl
  obtain ⟨RR, hR⟩ : ∃ z, z = (headSpec (.code y_Statement_init prog_8_method_1_code 1 none :: zd_ww) { frames := 1, cells := 0, slots := 0, locals := 30 }).room := ⟨_, rfl⟩
  rw [← hR]
  obtain ⟨QQ, hQ⟩ : ∃ z, z = MQ below (zk_Q 2 D cA ad A b 127 (zk_f_Statement_init_127 σ)) args s 0 0 A := ⟨_, rfl⟩
  rw [← hQ]
  have hR1 : 1 ≤ RR.frames := by rw [hR]; exact Nat.le_refl _
  have hR2 : 30 ≤ RR.locals := by rw [hR]; exact Nat.le_refl _
  have hR3 : 0 ≤ RR.cells := by rw [hR]; exact Nat.le_refl _
  have hR4 : 0 ≤ RR.slots := by rw [hR]; exact Nat.le_refl _
  generalize s.heap = H at hw ⊢
  generalize ([] : List Loc) = locs at hw ⊢
  refine lv_aload_n hx hb d_Statement_init_0 rfl (lv_at hl 0 rfl) ?_
  refine W.objInit hx hb hown (hts _ zn2_57) (hts _ zn2_1) (hts _ zn2_2) rfl (by rw [hml]; exact hl.1) rfl d_Statement_init_1 (Nat.le_trans (by decide) hR1) (Nat.le_trans (Nat.le_of_ble_eq_true rfl) hR2) ?_
  refine W.eq (g2 := F0 m 4 ls []) rfl ?_
  refine lv_aload_n hx hb d_Statement_init_4 rfl (lv_at hl 0 rfl) ?_
  refine va_gets (C := "ScheduleCheck$Kind") (n := "STOP") (d := "LScheduleCheck$Kind;") (v := .ref (ad 1109)) hx hb ((G.2.2.2.1.1 rfl).2.2.1.1 9 (by decide)).1 hw.2.2.1 hown (hts _ zn2_58) (fun _ h => h) d_Statement_init_5 ?_
  refine zk_putr (ci := 6) G hw 127 0 (by decide) (by decide) zi_6 t_zd6 t_zd6_ok n_zd6 rfl rfl rfl (by decide) rfl zn2_59 (fun _ h => h) rfl  (x := 1109) (by decide) (t_zd6_ok 0 (by decide)) rfl rfl d_Statement_init_8 (fun H locs hw => ?_)
  exact zk_vret G hw hr hlocks hQ d_Statement_init_11
def zk_f_Statement_init_128 (σ : zs_S) : zs_S := (zs_wr σ 128 0 1109)
set_option maxHeartbeats 8000000 in
set_option maxRecDepth 100000 in
theorem zk_Statement_init_128 {l : Launch} {D : va_G} {cA : Nat → ClassId} {ad : Nat → Nat} {A : Nat → Prop} {b : Nat} {σ : zs_S} (hJ : zs_J ad) (had : ∀ o, 1 ≤ o → o ≤ zd_M 2 → ad o = b + (o - 1)) (hA : ∀ q, b ≤ q → A q) : Met l y_Statement_init (.code y_Statement_init prog_8_method_1_code 1 none :: zd_ww) { frames := 1, cells := 0, slots := 0, locals := 30 } (va_Pc [.ref (ad 128)] (zk_U 2 D cA ad A b 128 σ)) (zk_Q 2 D cA ad A b 128 (zk_f_Statement_init_128 σ)) 0 0 A := by
  refine Met.ofW (cc := prog_8_method_1_code) (maxL := 1) (ret := none) (by decide) rfl ?_
  intro p e s m args below meth c s₁ B hml hv
  obtain ⟨hargs, hP, hK, hD, hZ, hz, hd, hO⟩ := hv
  have G : zk_G 2 p s m args c prog_8_method_1_code 1 "ScheduleCheck$Statement" D cA ad A b := ⟨⟨B.exec, B.bytes, hml, findClass_of_methodNamed B.named, fun w h => atoms_spec B.pre w (List.mem_cons_of_mem _ h)⟩, hK, hJ, hZ, had, hA, hO⟩
  have hw : zk_I 2 D cA ad A s b 128 σ s.heap [] := ⟨hP, hD, va_S.rf, hz, hd⟩
  have hx := G.1.1
  have hb := G.1.2.1
  have hown := G.1.2.2.2.1
  have hts := G.1.2.2.2.2
  have hr := B.returns
  have hlocks := B.notSynchronized
  have hin : meth.name = "<init>" := (name_of_methodNamed B.named B.method).1
  have he : entryFrame m args 1 = F0 m 0 ((lg_sl [.ref (ad 128)] ++ List.replicate (1 - (lg_sl [.ref (ad 128)]).length) Slot.unset).toArray) [] := by rw [hargs]; exact lg_entry_eq m _ 1
  have hl := lv_entry [.ref (ad 128)] (n := 1) (Nat.le_of_ble_eq_true rfl)
  rw [he]
  generalize (lg_sl [.ref (ad 128)] ++ List.replicate (1 - (lg_sl [.ref (ad 128)]).length) Slot.unset).toArray = ls at hl
  have hl : lv_has ls 1 [(0, .ref (ad 128))] := hl
  obtain ⟨RR, hR⟩ : ∃ z, z = (headSpec (.code y_Statement_init prog_8_method_1_code 1 none :: zd_ww) { frames := 1, cells := 0, slots := 0, locals := 30 }).room := ⟨_, rfl⟩
  rw [← hR]
  obtain ⟨QQ, hQ⟩ : ∃ z, z = MQ below (zk_Q 2 D cA ad A b 128 (zk_f_Statement_init_128 σ)) args s 0 0 A := ⟨_, rfl⟩
  rw [← hQ]
  have hR1 : 1 ≤ RR.frames := by rw [hR]; exact Nat.le_refl _
  have hR2 : 30 ≤ RR.locals := by rw [hR]; exact Nat.le_refl _
  have hR3 : 0 ≤ RR.cells := by rw [hR]; exact Nat.le_refl _
  have hR4 : 0 ≤ RR.slots := by rw [hR]; exact Nat.le_refl _
  generalize s.heap = H at hw ⊢
  generalize ([] : List Loc) = locs at hw ⊢
  refine lv_aload_n hx hb d_Statement_init_0 rfl (lv_at hl 0 rfl) ?_
  refine W.objInit hx hb hown (hts _ zn2_57) (hts _ zn2_1) (hts _ zn2_2) rfl (by rw [hml]; exact hl.1) rfl d_Statement_init_1 (Nat.le_trans (by decide) hR1) (Nat.le_trans (Nat.le_of_ble_eq_true rfl) hR2) ?_
  refine W.eq (g2 := F0 m 4 ls []) rfl ?_
  refine lv_aload_n hx hb d_Statement_init_4 rfl (lv_at hl 0 rfl) ?_
  refine va_gets (C := "ScheduleCheck$Kind") (n := "STOP") (d := "LScheduleCheck$Kind;") (v := .ref (ad 1109)) hx hb ((G.2.2.2.1.1 rfl).2.2.1.1 9 (by decide)).1 hw.2.2.1 hown (hts _ zn2_58) (fun _ h => h) d_Statement_init_5 ?_
  refine zk_putr (ci := 6) G hw 128 0 (by decide) (by decide) zi_6 t_zd6 t_zd6_ok n_zd6 rfl rfl rfl (by decide) rfl zn2_59 (fun _ h => h) rfl  (x := 1109) (by decide) (t_zd6_ok 0 (by decide)) rfl rfl d_Statement_init_8 (fun H locs hw => ?_)
  exact zk_vret G hw hr hlocks hQ d_Statement_init_11
def zk_f_Statement_init_129 (σ : zs_S) : zs_S := (zs_wr σ 129 0 1109)
set_option maxHeartbeats 8000000 in
set_option maxRecDepth 100000 in
theorem zk_Statement_init_129 {l : Launch} {D : va_G} {cA : Nat → ClassId} {ad : Nat → Nat} {A : Nat → Prop} {b : Nat} {σ : zs_S} (hJ : zs_J ad) (had : ∀ o, 1 ≤ o → o ≤ zd_M 2 → ad o = b + (o - 1)) (hA : ∀ q, b ≤ q → A q) : Met l y_Statement_init (.code y_Statement_init prog_8_method_1_code 1 none :: zd_ww) { frames := 1, cells := 0, slots := 0, locals := 30 } (va_Pc [.ref (ad 129)] (zk_U 2 D cA ad A b 129 σ)) (zk_Q 2 D cA ad A b 129 (zk_f_Statement_init_129 σ)) 0 0 A := by
  refine Met.ofW (cc := prog_8_method_1_code) (maxL := 1) (ret := none) (by decide) rfl ?_
  intro p e s m args below meth c s₁ B hml hv
  obtain ⟨hargs, hP, hK, hD, hZ, hz, hd, hO⟩ := hv
  have G : zk_G 2 p s m args c prog_8_method_1_code 1 "ScheduleCheck$Statement" D cA ad A b := ⟨⟨B.exec, B.bytes, hml, findClass_of_methodNamed B.named, fun w h => atoms_spec B.pre w (List.mem_cons_of_mem _ h)⟩, hK, hJ, hZ, had, hA, hO⟩
  have hw : zk_I 2 D cA ad A s b 129 σ s.heap [] := ⟨hP, hD, va_S.rf, hz, hd⟩
  have hx := G.1.1
  have hb := G.1.2.1
  have hown := G.1.2.2.2.1
  have hts := G.1.2.2.2.2
  have hr := B.returns
  have hlocks := B.notSynchronized
  have hin : meth.name = "<init>" := (name_of_methodNamed B.named B.method).1
  have he : entryFrame m args 1 = F0 m 0 ((lg_sl [.ref (ad 129)] ++ List.replicate (1 - (lg_sl [.ref (ad 129)]).length) Slot.unset).toArray) [] := by rw [hargs]; exact lg_entry_eq m _ 1
  have hl := lv_entry [.ref (ad 129)] (n := 1) (Nat.le_of_ble_eq_true rfl)
  rw [he]
  generalize (lg_sl [.ref (ad 129)] ++ List.replicate (1 - (lg_sl [.ref (ad 129)]).length) Slot.unset).toArray = ls at hl
  have hl : lv_has ls 1 [(0, .ref (ad 129))] := hl
  obtain ⟨RR, hR⟩ : ∃ z, z = (headSpec (.code y_Statement_init prog_8_method_1_code 1 none :: zd_ww) { frames := 1, cells := 0, slots := 0, locals := 30 }).room := ⟨_, rfl⟩
  rw [← hR]
  obtain ⟨QQ, hQ⟩ : ∃ z, z = MQ below (zk_Q 2 D cA ad A b 129 (zk_f_Statement_init_129 σ)) args s 0 0 A := ⟨_, rfl⟩
  rw [← hQ]
  have hR1 : 1 ≤ RR.frames := by rw [hR]; exact Nat.le_refl _
  have hR2 : 30 ≤ RR.locals := by rw [hR]; exact Nat.le_refl _
  have hR3 : 0 ≤ RR.cells := by rw [hR]; exact Nat.le_refl _
  have hR4 : 0 ≤ RR.slots := by rw [hR]; exact Nat.le_refl _
  generalize s.heap = H at hw ⊢
  generalize ([] : List Loc) = locs at hw ⊢
  refine lv_aload_n hx hb d_Statement_init_0 rfl (lv_at hl 0 rfl) ?_
  refine W.objInit hx hb hown (hts _ zn2_57) (hts _ zn2_1) (hts _ zn2_2) rfl (by rw [hml]; exact hl.1) rfl d_Statement_init_1 (Nat.le_trans (by decide) hR1) (Nat.le_trans (Nat.le_of_ble_eq_true rfl) hR2) ?_
  refine W.eq (g2 := F0 m 4 ls []) rfl ?_
  refine lv_aload_n hx hb d_Statement_init_4 rfl (lv_at hl 0 rfl) ?_
  refine va_gets (C := "ScheduleCheck$Kind") (n := "STOP") (d := "LScheduleCheck$Kind;") (v := .ref (ad 1109)) hx hb ((G.2.2.2.1.1 rfl).2.2.1.1 9 (by decide)).1 hw.2.2.1 hown (hts _ zn2_58) (fun _ h => h) d_Statement_init_5 ?_
  refine zk_putr (ci := 6) G hw 129 0 (by decide) (by decide) zi_6 t_zd6 t_zd6_ok n_zd6 rfl rfl rfl (by decide) rfl zn2_59 (fun _ h => h) rfl  (x := 1109) (by decide) (t_zd6_ok 0 (by decide)) rfl rfl d_Statement_init_8 (fun H locs hw => ?_)
  exact zk_vret G hw hr hlocks hQ d_Statement_init_11
def zk_f_Statement_init_130 (σ : zs_S) : zs_S := (zs_wr σ 130 0 1109)
set_option maxHeartbeats 8000000 in
set_option maxRecDepth 100000 in
theorem zk_Statement_init_130 {l : Launch} {D : va_G} {cA : Nat → ClassId} {ad : Nat → Nat} {A : Nat → Prop} {b : Nat} {σ : zs_S} (hJ : zs_J ad) (had : ∀ o, 1 ≤ o → o ≤ zd_M 2 → ad o = b + (o - 1)) (hA : ∀ q, b ≤ q → A q) : Met l y_Statement_init (.code y_Statement_init prog_8_method_1_code 1 none :: zd_ww) { frames := 1, cells := 0, slots := 0, locals := 30 } (va_Pc [.ref (ad 130)] (zk_U 2 D cA ad A b 130 σ)) (zk_Q 2 D cA ad A b 130 (zk_f_Statement_init_130 σ)) 0 0 A := by
  refine Met.ofW (cc := prog_8_method_1_code) (maxL := 1) (ret := none) (by decide) rfl ?_
  intro p e s m args below meth c s₁ B hml hv
  obtain ⟨hargs, hP, hK, hD, hZ, hz, hd, hO⟩ := hv
  have G : zk_G 2 p s m args c prog_8_method_1_code 1 "ScheduleCheck$Statement" D cA ad A b := ⟨⟨B.exec, B.bytes, hml, findClass_of_methodNamed B.named, fun w h => atoms_spec B.pre w (List.mem_cons_of_mem _ h)⟩, hK, hJ, hZ, had, hA, hO⟩
  have hw : zk_I 2 D cA ad A s b 130 σ s.heap [] := ⟨hP, hD, va_S.rf, hz, hd⟩
  have hx := G.1.1
  have hb := G.1.2.1
  have hown := G.1.2.2.2.1
  have hts := G.1.2.2.2.2
  have hr := B.returns
  have hlocks := B.notSynchronized
  have hin : meth.name = "<init>" := (name_of_methodNamed B.named B.method).1
  have he : entryFrame m args 1 = F0 m 0 ((lg_sl [.ref (ad 130)] ++ List.replicate (1 - (lg_sl [.ref (ad 130)]).length) Slot.unset).toArray) [] := by rw [hargs]; exact lg_entry_eq m _ 1
  have hl := lv_entry [.ref (ad 130)] (n := 1) (Nat.le_of_ble_eq_true rfl)
  rw [he]
  generalize (lg_sl [.ref (ad 130)] ++ List.replicate (1 - (lg_sl [.ref (ad 130)]).length) Slot.unset).toArray = ls at hl
  have hl : lv_has ls 1 [(0, .ref (ad 130))] := hl
  obtain ⟨RR, hR⟩ : ∃ z, z = (headSpec (.code y_Statement_init prog_8_method_1_code 1 none :: zd_ww) { frames := 1, cells := 0, slots := 0, locals := 30 }).room := ⟨_, rfl⟩
  rw [← hR]
  obtain ⟨QQ, hQ⟩ : ∃ z, z = MQ below (zk_Q 2 D cA ad A b 130 (zk_f_Statement_init_130 σ)) args s 0 0 A := ⟨_, rfl⟩
  rw [← hQ]
  have hR1 : 1 ≤ RR.frames := by rw [hR]; exact Nat.le_refl _
  have hR2 : 30 ≤ RR.locals := by rw [hR]; exact Nat.le_refl _
  have hR3 : 0 ≤ RR.cells := by rw [hR]; exact Nat.le_refl _
  have hR4 : 0 ≤ RR.slots := by rw [hR]; exact Nat.le_refl _
  generalize s.heap = H at hw ⊢
  generalize ([] : List Loc) = locs at hw ⊢
  refine lv_aload_n hx hb d_Statement_init_0 rfl (lv_at hl 0 rfl) ?_
  refine W.objInit hx hb hown (hts _ zn2_57) (hts _ zn2_1) (hts _ zn2_2) rfl (by rw [hml]; exact hl.1) rfl d_Statement_init_1 (Nat.le_trans (by decide) hR1) (Nat.le_trans (Nat.le_of_ble_eq_true rfl) hR2) ?_
  refine W.eq (g2 := F0 m 4 ls []) rfl ?_
  refine lv_aload_n hx hb d_Statement_init_4 rfl (lv_at hl 0 rfl) ?_
  refine va_gets (C := "ScheduleCheck$Kind") (n := "STOP") (d := "LScheduleCheck$Kind;") (v := .ref (ad 1109)) hx hb ((G.2.2.2.1.1 rfl).2.2.1.1 9 (by decide)).1 hw.2.2.1 hown (hts _ zn2_58) (fun _ h => h) d_Statement_init_5 ?_
  refine zk_putr (ci := 6) G hw 130 0 (by decide) (by decide) zi_6 t_zd6 t_zd6_ok n_zd6 rfl rfl rfl (by decide) rfl zn2_59 (fun _ h => h) rfl  (x := 1109) (by decide) (t_zd6_ok 0 (by decide)) rfl rfl d_Statement_init_8 (fun H locs hw => ?_)
  exact zk_vret G hw hr hlocks hQ d_Statement_init_11
def zk_f_Statement_init_131 (σ : zs_S) : zs_S := (zs_wr σ 131 0 1109)
set_option maxHeartbeats 8000000 in
set_option maxRecDepth 100000 in
theorem zk_Statement_init_131 {l : Launch} {D : va_G} {cA : Nat → ClassId} {ad : Nat → Nat} {A : Nat → Prop} {b : Nat} {σ : zs_S} (hJ : zs_J ad) (had : ∀ o, 1 ≤ o → o ≤ zd_M 2 → ad o = b + (o - 1)) (hA : ∀ q, b ≤ q → A q) : Met l y_Statement_init (.code y_Statement_init prog_8_method_1_code 1 none :: zd_ww) { frames := 1, cells := 0, slots := 0, locals := 30 } (va_Pc [.ref (ad 131)] (zk_U 2 D cA ad A b 131 σ)) (zk_Q 2 D cA ad A b 131 (zk_f_Statement_init_131 σ)) 0 0 A := by
  refine Met.ofW (cc := prog_8_method_1_code) (maxL := 1) (ret := none) (by decide) rfl ?_
  intro p e s m args below meth c s₁ B hml hv
  obtain ⟨hargs, hP, hK, hD, hZ, hz, hd, hO⟩ := hv
  have G : zk_G 2 p s m args c prog_8_method_1_code 1 "ScheduleCheck$Statement" D cA ad A b := ⟨⟨B.exec, B.bytes, hml, findClass_of_methodNamed B.named, fun w h => atoms_spec B.pre w (List.mem_cons_of_mem _ h)⟩, hK, hJ, hZ, had, hA, hO⟩
  have hw : zk_I 2 D cA ad A s b 131 σ s.heap [] := ⟨hP, hD, va_S.rf, hz, hd⟩
  have hx := G.1.1
  have hb := G.1.2.1
  have hown := G.1.2.2.2.1
  have hts := G.1.2.2.2.2
  have hr := B.returns
  have hlocks := B.notSynchronized
  have hin : meth.name = "<init>" := (name_of_methodNamed B.named B.method).1
  have he : entryFrame m args 1 = F0 m 0 ((lg_sl [.ref (ad 131)] ++ List.replicate (1 - (lg_sl [.ref (ad 131)]).length) Slot.unset).toArray) [] := by rw [hargs]; exact lg_entry_eq m _ 1
  have hl := lv_entry [.ref (ad 131)] (n := 1) (Nat.le_of_ble_eq_true rfl)
  rw [he]
  generalize (lg_sl [.ref (ad 131)] ++ List.replicate (1 - (lg_sl [.ref (ad 131)]).length) Slot.unset).toArray = ls at hl
  have hl : lv_has ls 1 [(0, .ref (ad 131))] := hl
  obtain ⟨RR, hR⟩ : ∃ z, z = (headSpec (.code y_Statement_init prog_8_method_1_code 1 none :: zd_ww) { frames := 1, cells := 0, slots := 0, locals := 30 }).room := ⟨_, rfl⟩
  rw [← hR]
  obtain ⟨QQ, hQ⟩ : ∃ z, z = MQ below (zk_Q 2 D cA ad A b 131 (zk_f_Statement_init_131 σ)) args s 0 0 A := ⟨_, rfl⟩
  rw [← hQ]
  have hR1 : 1 ≤ RR.frames := by rw [hR]; exact Nat.le_refl _
  have hR2 : 30 ≤ RR.locals := by rw [hR]; exact Nat.le_refl _
  have hR3 : 0 ≤ RR.cells := by rw [hR]; exact Nat.le_refl _
  have hR4 : 0 ≤ RR.slots := by rw [hR]; exact Nat.le_refl _
  generalize s.heap = H at hw ⊢
  generalize ([] : List Loc) = locs at hw ⊢
  refine lv_aload_n hx hb d_Statement_init_0 rfl (lv_at hl 0 rfl) ?_
  refine W.objInit hx hb hown (hts _ zn2_57) (hts _ zn2_1) (hts _ zn2_2) rfl (by rw [hml]; exact hl.1) rfl d_Statement_init_1 (Nat.le_trans (by decide) hR1) (Nat.le_trans (Nat.le_of_ble_eq_true rfl) hR2) ?_
  refine W.eq (g2 := F0 m 4 ls []) rfl ?_
  refine lv_aload_n hx hb d_Statement_init_4 rfl (lv_at hl 0 rfl) ?_
  refine va_gets (C := "ScheduleCheck$Kind") (n := "STOP") (d := "LScheduleCheck$Kind;") (v := .ref (ad 1109)) hx hb ((G.2.2.2.1.1 rfl).2.2.1.1 9 (by decide)).1 hw.2.2.1 hown (hts _ zn2_58) (fun _ h => h) d_Statement_init_5 ?_
  refine zk_putr (ci := 6) G hw 131 0 (by decide) (by decide) zi_6 t_zd6 t_zd6_ok n_zd6 rfl rfl rfl (by decide) rfl zn2_59 (fun _ h => h) rfl  (x := 1109) (by decide) (t_zd6_ok 0 (by decide)) rfl rfl d_Statement_init_8 (fun H locs hw => ?_)
  exact zk_vret G hw hr hlocks hQ d_Statement_init_11
def zk_f_Statement_init_132 (σ : zs_S) : zs_S := (zs_wr σ 132 0 1109)
set_option maxHeartbeats 8000000 in
set_option maxRecDepth 100000 in
theorem zk_Statement_init_132 {l : Launch} {D : va_G} {cA : Nat → ClassId} {ad : Nat → Nat} {A : Nat → Prop} {b : Nat} {σ : zs_S} (hJ : zs_J ad) (had : ∀ o, 1 ≤ o → o ≤ zd_M 2 → ad o = b + (o - 1)) (hA : ∀ q, b ≤ q → A q) : Met l y_Statement_init (.code y_Statement_init prog_8_method_1_code 1 none :: zd_ww) { frames := 1, cells := 0, slots := 0, locals := 30 } (va_Pc [.ref (ad 132)] (zk_U 2 D cA ad A b 132 σ)) (zk_Q 2 D cA ad A b 132 (zk_f_Statement_init_132 σ)) 0 0 A := by
  refine Met.ofW (cc := prog_8_method_1_code) (maxL := 1) (ret := none) (by decide) rfl ?_
  intro p e s m args below meth c s₁ B hml hv
  obtain ⟨hargs, hP, hK, hD, hZ, hz, hd, hO⟩ := hv
  have G : zk_G 2 p s m args c prog_8_method_1_code 1 "ScheduleCheck$Statement" D cA ad A b := ⟨⟨B.exec, B.bytes, hml, findClass_of_methodNamed B.named, fun w h => atoms_spec B.pre w (List.mem_cons_of_mem _ h)⟩, hK, hJ, hZ, had, hA, hO⟩
  have hw : zk_I 2 D cA ad A s b 132 σ s.heap [] := ⟨hP, hD, va_S.rf, hz, hd⟩
  have hx := G.1.1
  have hb := G.1.2.1
  have hown := G.1.2.2.2.1
  have hts := G.1.2.2.2.2
  have hr := B.returns
  have hlocks := B.notSynchronized
  have hin : meth.name = "<init>" := (name_of_methodNamed B.named B.method).1
  have he : entryFrame m args 1 = F0 m 0 ((lg_sl [.ref (ad 132)] ++ List.replicate (1 - (lg_sl [.ref (ad 132)]).length) Slot.unset).toArray) [] := by rw [hargs]; exact lg_entry_eq m _ 1
  have hl := lv_entry [.ref (ad 132)] (n := 1) (Nat.le_of_ble_eq_true rfl)
  rw [he]
  generalize (lg_sl [.ref (ad 132)] ++ List.replicate (1 - (lg_sl [.ref (ad 132)]).length) Slot.unset).toArray = ls at hl
  have hl : lv_has ls 1 [(0, .ref (ad 132))] := hl
  obtain ⟨RR, hR⟩ : ∃ z, z = (headSpec (.code y_Statement_init prog_8_method_1_code 1 none :: zd_ww) { frames := 1, cells := 0, slots := 0, locals := 30 }).room := ⟨_, rfl⟩
  rw [← hR]
  obtain ⟨QQ, hQ⟩ : ∃ z, z = MQ below (zk_Q 2 D cA ad A b 132 (zk_f_Statement_init_132 σ)) args s 0 0 A := ⟨_, rfl⟩
  rw [← hQ]
  have hR1 : 1 ≤ RR.frames := by rw [hR]; exact Nat.le_refl _
  have hR2 : 30 ≤ RR.locals := by rw [hR]; exact Nat.le_refl _
  have hR3 : 0 ≤ RR.cells := by rw [hR]; exact Nat.le_refl _
  have hR4 : 0 ≤ RR.slots := by rw [hR]; exact Nat.le_refl _
  generalize s.heap = H at hw ⊢
  generalize ([] : List Loc) = locs at hw ⊢
  refine lv_aload_n hx hb d_Statement_init_0 rfl (lv_at hl 0 rfl) ?_
  refine W.objInit hx hb hown (hts _ zn2_57) (hts _ zn2_1) (hts _ zn2_2) rfl (by rw [hml]; exact hl.1) rfl d_Statement_init_1 (Nat.le_trans (by decide) hR1) (Nat.le_trans (Nat.le_of_ble_eq_true rfl) hR2) ?_
  refine W.eq (g2 := F0 m 4 ls []) rfl ?_
  refine lv_aload_n hx hb d_Statement_init_4 rfl (lv_at hl 0 rfl) ?_
  refine va_gets (C := "ScheduleCheck$Kind") (n := "STOP") (d := "LScheduleCheck$Kind;") (v := .ref (ad 1109)) hx hb ((G.2.2.2.1.1 rfl).2.2.1.1 9 (by decide)).1 hw.2.2.1 hown (hts _ zn2_58) (fun _ h => h) d_Statement_init_5 ?_
  refine zk_putr (ci := 6) G hw 132 0 (by decide) (by decide) zi_6 t_zd6 t_zd6_ok n_zd6 rfl rfl rfl (by decide) rfl zn2_59 (fun _ h => h) rfl  (x := 1109) (by decide) (t_zd6_ok 0 (by decide)) rfl rfl d_Statement_init_8 (fun H locs hw => ?_)
  exact zk_vret G hw hr hlocks hQ d_Statement_init_11
def zk_f_Statement_init_133 (σ : zs_S) : zs_S := (zs_wr σ 133 0 1109)
set_option maxHeartbeats 8000000 in
set_option maxRecDepth 100000 in
theorem zk_Statement_init_133 {l : Launch} {D : va_G} {cA : Nat → ClassId} {ad : Nat → Nat} {A : Nat → Prop} {b : Nat} {σ : zs_S} (hJ : zs_J ad) (had : ∀ o, 1 ≤ o → o ≤ zd_M 2 → ad o = b + (o - 1)) (hA : ∀ q, b ≤ q → A q) : Met l y_Statement_init (.code y_Statement_init prog_8_method_1_code 1 none :: zd_ww) { frames := 1, cells := 0, slots := 0, locals := 30 } (va_Pc [.ref (ad 133)] (zk_U 2 D cA ad A b 133 σ)) (zk_Q 2 D cA ad A b 133 (zk_f_Statement_init_133 σ)) 0 0 A := by
  refine Met.ofW (cc := prog_8_method_1_code) (maxL := 1) (ret := none) (by decide) rfl ?_
  intro p e s m args below meth c s₁ B hml hv
  obtain ⟨hargs, hP, hK, hD, hZ, hz, hd, hO⟩ := hv
  have G : zk_G 2 p s m args c prog_8_method_1_code 1 "ScheduleCheck$Statement" D cA ad A b := ⟨⟨B.exec, B.bytes, hml, findClass_of_methodNamed B.named, fun w h => atoms_spec B.pre w (List.mem_cons_of_mem _ h)⟩, hK, hJ, hZ, had, hA, hO⟩
  have hw : zk_I 2 D cA ad A s b 133 σ s.heap [] := ⟨hP, hD, va_S.rf, hz, hd⟩
  have hx := G.1.1
  have hb := G.1.2.1
  have hown := G.1.2.2.2.1
  have hts := G.1.2.2.2.2
  have hr := B.returns
  have hlocks := B.notSynchronized
  have hin : meth.name = "<init>" := (name_of_methodNamed B.named B.method).1
  have he : entryFrame m args 1 = F0 m 0 ((lg_sl [.ref (ad 133)] ++ List.replicate (1 - (lg_sl [.ref (ad 133)]).length) Slot.unset).toArray) [] := by rw [hargs]; exact lg_entry_eq m _ 1
  have hl := lv_entry [.ref (ad 133)] (n := 1) (Nat.le_of_ble_eq_true rfl)
  rw [he]
  generalize (lg_sl [.ref (ad 133)] ++ List.replicate (1 - (lg_sl [.ref (ad 133)]).length) Slot.unset).toArray = ls at hl
  have hl : lv_has ls 1 [(0, .ref (ad 133))] := hl
  obtain ⟨RR, hR⟩ : ∃ z, z = (headSpec (.code y_Statement_init prog_8_method_1_code 1 none :: zd_ww) { frames := 1, cells := 0, slots := 0, locals := 30 }).room := ⟨_, rfl⟩
  rw [← hR]
  obtain ⟨QQ, hQ⟩ : ∃ z, z = MQ below (zk_Q 2 D cA ad A b 133 (zk_f_Statement_init_133 σ)) args s 0 0 A := ⟨_, rfl⟩
  rw [← hQ]
  have hR1 : 1 ≤ RR.frames := by rw [hR]; exact Nat.le_refl _
  have hR2 : 30 ≤ RR.locals := by rw [hR]; exact Nat.le_refl _
  have hR3 : 0 ≤ RR.cells := by rw [hR]; exact Nat.le_refl _
  have hR4 : 0 ≤ RR.slots := by rw [hR]; exact Nat.le_refl _
  generalize s.heap = H at hw ⊢
  generalize ([] : List Loc) = locs at hw ⊢
  refine lv_aload_n hx hb d_Statement_init_0 rfl (lv_at hl 0 rfl) ?_
  refine W.objInit hx hb hown (hts _ zn2_57) (hts _ zn2_1) (hts _ zn2_2) rfl (by rw [hml]; exact hl.1) rfl d_Statement_init_1 (Nat.le_trans (by decide) hR1) (Nat.le_trans (Nat.le_of_ble_eq_true rfl) hR2) ?_
  refine W.eq (g2 := F0 m 4 ls []) rfl ?_
  refine lv_aload_n hx hb d_Statement_init_4 rfl (lv_at hl 0 rfl) ?_
  refine va_gets (C := "ScheduleCheck$Kind") (n := "STOP") (d := "LScheduleCheck$Kind;") (v := .ref (ad 1109)) hx hb ((G.2.2.2.1.1 rfl).2.2.1.1 9 (by decide)).1 hw.2.2.1 hown (hts _ zn2_58) (fun _ h => h) d_Statement_init_5 ?_
  refine zk_putr (ci := 6) G hw 133 0 (by decide) (by decide) zi_6 t_zd6 t_zd6_ok n_zd6 rfl rfl rfl (by decide) rfl zn2_59 (fun _ h => h) rfl  (x := 1109) (by decide) (t_zd6_ok 0 (by decide)) rfl rfl d_Statement_init_8 (fun H locs hw => ?_)
  exact zk_vret G hw hr hlocks hQ d_Statement_init_11
def zk_f_Code_init_134 (σ : zs_S) : zs_S := (zs_wr (zs_wr (zs_wr σ 134 0 135) 134 1 136) 134 2 137)
set_option maxHeartbeats 8000000 in
set_option maxRecDepth 100000 in
theorem zk_Code_init_134 {l : Launch} {D : va_G} {cA : Nat → ClassId} {ad : Nat → Nat} {A : Nat → Prop} {b : Nat} {σ : zs_S} (hJ : zs_J ad) (had : ∀ o, 1 ≤ o → o ≤ zd_M 2 → ad o = b + (o - 1)) (hA : ∀ q, b ≤ q → A q) : Met l y_Code_init (.code y_Code_init prog_3_method_1_code 1 none :: zd_ww) { frames := 1, cells := 3, slots := 3350, locals := 30 } (va_Pc [.ref (ad 134)] (zk_U 2 D cA ad A b 134 σ)) (zk_Q 2 D cA ad A b 137 (zk_f_Code_init_134 σ)) 3 3350 A := by
  refine Met.ofW (cc := prog_3_method_1_code) (maxL := 1) (ret := none) (by decide) rfl ?_
  intro p e s m args below meth c s₁ B hml hv
  obtain ⟨hargs, hP, hK, hD, hZ, hz, hd, hO⟩ := hv
  have G : zk_G 2 p s m args c prog_3_method_1_code 1 "ScheduleCheck$Code" D cA ad A b := ⟨⟨B.exec, B.bytes, hml, findClass_of_methodNamed B.named, fun w h => atoms_spec B.pre w (List.mem_cons_of_mem _ h)⟩, hK, hJ, hZ, had, hA, hO⟩
  have hw : zk_I 2 D cA ad A s b 134 σ s.heap [] := ⟨hP, hD, va_S.rf, hz, hd⟩
  have hx := G.1.1
  have hb := G.1.2.1
  have hown := G.1.2.2.2.1
  have hts := G.1.2.2.2.2
  have hr := B.returns
  have hlocks := B.notSynchronized
  have hin : meth.name = "<init>" := (name_of_methodNamed B.named B.method).1
  have he : entryFrame m args 1 = F0 m 0 ((lg_sl [.ref (ad 134)] ++ List.replicate (1 - (lg_sl [.ref (ad 134)]).length) Slot.unset).toArray) [] := by rw [hargs]; exact lg_entry_eq m _ 1
  have hl := lv_entry [.ref (ad 134)] (n := 1) (Nat.le_of_ble_eq_true rfl)
  rw [he]
  generalize (lg_sl [.ref (ad 134)] ++ List.replicate (1 - (lg_sl [.ref (ad 134)]).length) Slot.unset).toArray = ls at hl
  have hl : lv_has ls 1 [(0, .ref (ad 134))] := hl
  obtain ⟨RR, hR⟩ : ∃ z, z = (headSpec (.code y_Code_init prog_3_method_1_code 1 none :: zd_ww) { frames := 1, cells := 3, slots := 3350, locals := 30 }).room := ⟨_, rfl⟩
  rw [← hR]
  obtain ⟨QQ, hQ⟩ : ∃ z, z = MQ below (zk_Q 2 D cA ad A b 137 (zk_f_Code_init_134 σ)) args s 3 3350 A := ⟨_, rfl⟩
  rw [← hQ]
  have hR1 : 1 ≤ RR.frames := by rw [hR]; exact Nat.le_refl _
  have hR2 : 30 ≤ RR.locals := by rw [hR]; exact Nat.le_refl _
  have hR3 : 3 ≤ RR.cells := by rw [hR]; exact Nat.le_refl _
  have hR4 : 3350 ≤ RR.slots := by rw [hR]; exact Nat.le_refl _
  generalize s.heap = H at hw ⊢
  generalize ([] : List Loc) = locs at hw ⊢
  refine lv_aload_n hx hb d_Code_init_0 rfl (lv_at hl 0 rfl) ?_
  refine W.objInit hx hb hown (hts _ zn2_66) (hts _ zn2_1) (hts _ zn2_2) rfl (by rw [hml]; exact hl.1) rfl d_Code_init_1 (Nat.le_trans (by decide) hR1) (Nat.le_trans (Nat.le_of_ble_eq_true rfl) hR2) ?_
  refine W.eq (g2 := F0 m 4 ls []) rfl ?_
  refine lv_aload_n hx hb d_Code_init_4 rfl (lv_at hl 0 rfl) ?_
  refine lv_sipush (v := 1600) hx hb d_Code_init_5 (by decide) ?_
  refine zk_newq (t := 4) (N := 1600) (n := 1600) G hw zn2_67 ((G.2.2.2.2.2.2.1 rfl).1) rfl (by decide) rfl (by decide) (by decide) (by decide) (by decide) (Nat.le_trans (by decide) hR3) (Nat.le_trans (by decide) hR4) d_Code_init_8 (fun H hw => ?_)
  refine W.widen (k := 1) (n := 1600) (by decide) (by decide) ?_
  refine zk_putF (ci := 7) G hw 134 0 (by decide) (by decide) zi_7 t_zd7 t_zd7_ok n_zd7 rfl rfl rfl (by decide) rfl zn2_68 (fun _ h => h) rfl hin rfl (x := 135) (by decide) (t_zd7_ok 0 (by decide)) rfl rfl d_Code_init_11 (fun H locs hw => ?_)
  refine lv_aload_n hx hb d_Code_init_14 rfl (lv_at hl 0 rfl) ?_
  refine lv_sipush (v := 1600) hx hb d_Code_init_15 (by decide) ?_
  refine zk_newa (atype := .int) (t := 0) (N := 1600) (n := 1600) G hw zn2_11 rfl (by decide) rfl (by decide) (by decide) (by decide) (by decide) (Nat.le_trans (by decide) hR3) (Nat.le_trans (by decide) hR4) d_Code_init_18 (fun H hw => ?_)
  refine W.widen (k := 2) (n := 3200) (by decide) (by decide) ?_
  refine zk_putF (ci := 7) G hw 134 1 (by decide) (by decide) zi_7 t_zd7 t_zd7_ok n_zd7 rfl rfl rfl (by decide) rfl zn2_69 (fun _ h => h) rfl hin rfl (x := 136) (by decide) (t_zd7_ok 1 (by decide)) rfl rfl d_Code_init_20 (fun H locs hw => ?_)
  refine lv_aload_n hx hb d_Code_init_23 rfl (lv_at hl 0 rfl) ?_
  refine lv_sipush (v := 150) hx hb d_Code_init_24 (by decide) ?_
  refine zk_newa (atype := .int) (t := 0) (N := 150) (n := 150) G hw zn2_11 rfl (by decide) rfl (by decide) (by decide) (by decide) (by decide) (Nat.le_trans (by decide) hR3) (Nat.le_trans (by decide) hR4) d_Code_init_27 (fun H hw => ?_)
  refine W.widen (k := 3) (n := 3350) (by decide) (by decide) ?_
  refine zk_putF (ci := 7) G hw 134 2 (by decide) (by decide) zi_7 t_zd7 t_zd7_ok n_zd7 rfl rfl rfl (by decide) rfl zn2_70 (fun _ h => h) rfl hin rfl (x := 137) (by decide) (t_zd7_ok 2 (by decide)) rfl rfl d_Code_init_29 (fun H locs hw => ?_)
  exact zk_vret G hw hr hlocks hQ d_Code_init_32
def zk_f_Program_init_79 (σ : zs_S) : zs_S := (zs_wr (zk_f_Code_init_134 (zs_wr (zk_f_Statement_init_133 (zs_wr (zk_f_Statement_init_132 (zs_wr (zk_f_Statement_init_131 (zs_wr (zk_f_Statement_init_130 (zs_wr (zk_f_Statement_init_129 (zs_wr (zk_f_Statement_init_128 (zs_wr (zk_f_Statement_init_127 (zs_wr (zk_f_Statement_init_126 (zs_wr (zk_f_Statement_init_125 (zs_wr (zk_f_Statement_init_124 (zs_wr (zk_f_Statement_init_123 (zs_wr (zk_f_Statement_init_122 (zs_wr (zk_f_Statement_init_121 (zs_wr (zk_f_Statement_init_120 (zs_wr (zk_f_Statement_init_119 (zs_wr (zk_f_Statement_init_118 (zs_wr (zk_f_Statement_init_117 (zs_wr (zk_f_Statement_init_116 (zs_wr (zk_f_Statement_init_115 (zs_wr (zk_f_Statement_init_114 (zs_wr (zk_f_Statement_init_113 (zs_wr (zk_f_Statement_init_112 (zs_wr (zk_f_Statement_init_111 (zs_wr (zk_f_Statement_init_110 (zs_wr (zk_f_Statement_init_109 (zs_wr (zk_f_Statement_init_108 (zs_wr (zk_f_Statement_init_107 (zs_wr (zk_f_Statement_init_106 (zs_wr (zk_f_Statement_init_105 (zs_wr (zk_f_Statement_init_104 (zs_wr (zk_f_Statement_init_103 (zs_wr (zk_f_Statement_init_102 (zs_wr (zk_f_Statement_init_101 (zs_wr (zk_f_Statement_init_100 (zs_wr (zk_f_Statement_init_99 (zs_wr (zk_f_Statement_init_98 (zs_wr (zk_f_Statement_init_97 (zs_wr (zk_f_Statement_init_96 (zs_wr (zk_f_Statement_init_95 (zs_wr (zk_f_Statement_init_94 (zs_wr (zk_f_Statement_init_93 (zs_wr (zk_f_Statement_init_92 (zs_wr (zk_f_Statement_init_91 (zs_wr (zk_f_Statement_init_90 (zs_wr (zk_f_Statement_init_89 (zs_wr (zk_f_Statement_init_88 (zs_wr (zk_f_Statement_init_87 (zs_wr (zk_f_Statement_init_86 (zs_wr (zk_f_Statement_init_85 (zs_wr (zk_f_Statement_init_84 (zs_wr (zs_wr (zs_wr (zs_wr σ 79 4 80) 79 5 81) 79 6 82) 79 7 83)) 83 (0 : Int32).toNatClampNeg 84)) 83 (1 : Int32).toNatClampNeg 85)) 83 (2 : Int32).toNatClampNeg 86)) 83 (3 : Int32).toNatClampNeg 87)) 83 (4 : Int32).toNatClampNeg 88)) 83 (5 : Int32).toNatClampNeg 89)) 83 (6 : Int32).toNatClampNeg 90)) 83 (7 : Int32).toNatClampNeg 91)) 83 (8 : Int32).toNatClampNeg 92)) 83 (9 : Int32).toNatClampNeg 93)) 83 (10 : Int32).toNatClampNeg 94)) 83 (11 : Int32).toNatClampNeg 95)) 83 (12 : Int32).toNatClampNeg 96)) 83 (13 : Int32).toNatClampNeg 97)) 83 (14 : Int32).toNatClampNeg 98)) 83 (15 : Int32).toNatClampNeg 99)) 83 (16 : Int32).toNatClampNeg 100)) 83 (17 : Int32).toNatClampNeg 101)) 83 (18 : Int32).toNatClampNeg 102)) 83 (19 : Int32).toNatClampNeg 103)) 83 (20 : Int32).toNatClampNeg 104)) 83 (21 : Int32).toNatClampNeg 105)) 83 (22 : Int32).toNatClampNeg 106)) 83 (23 : Int32).toNatClampNeg 107)) 83 (24 : Int32).toNatClampNeg 108)) 83 (25 : Int32).toNatClampNeg 109)) 83 (26 : Int32).toNatClampNeg 110)) 83 (27 : Int32).toNatClampNeg 111)) 83 (28 : Int32).toNatClampNeg 112)) 83 (29 : Int32).toNatClampNeg 113)) 83 (30 : Int32).toNatClampNeg 114)) 83 (31 : Int32).toNatClampNeg 115)) 83 (32 : Int32).toNatClampNeg 116)) 83 (33 : Int32).toNatClampNeg 117)) 83 (34 : Int32).toNatClampNeg 118)) 83 (35 : Int32).toNatClampNeg 119)) 83 (36 : Int32).toNatClampNeg 120)) 83 (37 : Int32).toNatClampNeg 121)) 83 (38 : Int32).toNatClampNeg 122)) 83 (39 : Int32).toNatClampNeg 123)) 83 (40 : Int32).toNatClampNeg 124)) 83 (41 : Int32).toNatClampNeg 125)) 83 (42 : Int32).toNatClampNeg 126)) 83 (43 : Int32).toNatClampNeg 127)) 83 (44 : Int32).toNatClampNeg 128)) 83 (45 : Int32).toNatClampNeg 129)) 83 (46 : Int32).toNatClampNeg 130)) 83 (47 : Int32).toNatClampNeg 131)) 83 (48 : Int32).toNatClampNeg 132)) 83 (49 : Int32).toNatClampNeg 133)) 79 8 134)
set_option maxHeartbeats 8000000 in
set_option maxRecDepth 100000 in
theorem zk_Program_init_79 {l : Launch} {D : va_G} {cA : Nat → ClassId} {ad : Nat → Nat} {A : Nat → Prop} {b : Nat} {σ : zs_S} (hJ : zs_J ad) (had : ∀ o, 1 ≤ o → o ≤ zd_M 2 → ad o = b + (o - 1)) (hA : ∀ q, b ≤ q → A q) : Met l y_Program_init (.code y_Program_init prog_7_method_1_code 2 none :: zd_ww) { frames := 2, cells := 58, slots := 3870, locals := 50 } (va_Pc [.ref (ad 79)] (zk_U 2 D cA ad A b 79 σ)) (zk_Q 2 D cA ad A b 137 (zk_f_Program_init_79 σ)) 58 3870 A := by
  refine Met.ofW (cc := prog_7_method_1_code) (maxL := 2) (ret := none) (by decide) rfl ?_
  intro p e s m args below meth c s₁ B hml hv
  obtain ⟨hargs, hP, hK, hD, hZ, hz, hd, hO⟩ := hv
  have G : zk_G 2 p s m args c prog_7_method_1_code 2 "ScheduleCheck$Program" D cA ad A b := ⟨⟨B.exec, B.bytes, hml, findClass_of_methodNamed B.named, fun w h => atoms_spec B.pre w (List.mem_cons_of_mem _ h)⟩, hK, hJ, hZ, had, hA, hO⟩
  have hw : zk_I 2 D cA ad A s b 79 σ s.heap [] := ⟨hP, hD, va_S.rf, hz, hd⟩
  have hx := G.1.1
  have hb := G.1.2.1
  have hown := G.1.2.2.2.1
  have hts := G.1.2.2.2.2
  have hr := B.returns
  have hlocks := B.notSynchronized
  have hin : meth.name = "<init>" := (name_of_methodNamed B.named B.method).1
  have he : entryFrame m args 2 = F0 m 0 ((lg_sl [.ref (ad 79)] ++ List.replicate (2 - (lg_sl [.ref (ad 79)]).length) Slot.unset).toArray) [] := by rw [hargs]; exact lg_entry_eq m _ 2
  have hl := lv_entry [.ref (ad 79)] (n := 2) (Nat.le_of_ble_eq_true rfl)
  rw [he]
  generalize (lg_sl [.ref (ad 79)] ++ List.replicate (2 - (lg_sl [.ref (ad 79)]).length) Slot.unset).toArray = ls at hl
  have hl : lv_has ls 2 [(0, .ref (ad 79))] := hl
  obtain ⟨RR, hR⟩ : ∃ z, z = (headSpec (.code y_Program_init prog_7_method_1_code 2 none :: zd_ww) { frames := 2, cells := 58, slots := 3870, locals := 50 }).room := ⟨_, rfl⟩
  rw [← hR]
  obtain ⟨QQ, hQ⟩ : ∃ z, z = MQ below (zk_Q 2 D cA ad A b 137 (zk_f_Program_init_79 σ)) args s 58 3870 A := ⟨_, rfl⟩
  rw [← hQ]
  have hR1 : 2 ≤ RR.frames := by rw [hR]; exact Nat.le_refl _
  have hR2 : 50 ≤ RR.locals := by rw [hR]; exact Nat.le_refl _
  have hR3 : 58 ≤ RR.cells := by rw [hR]; exact Nat.le_refl _
  have hR4 : 3870 ≤ RR.slots := by rw [hR]; exact Nat.le_refl _
  generalize s.heap = H at hw ⊢
  generalize ([] : List Loc) = locs at hw ⊢
  refine lv_aload_n hx hb d_Program_init_0 rfl (lv_at hl 0 rfl) ?_
  refine W.objInit hx hb hown (hts _ zn2_49) (hts _ zn2_1) (hts _ zn2_2) rfl (by rw [hml]; exact hl.1) rfl d_Program_init_1 (Nat.le_trans (by decide) hR1) (Nat.le_trans (Nat.le_of_ble_eq_true rfl) hR2) ?_
  refine W.eq (g2 := F0 m 4 ls []) rfl ?_
  refine lv_aload_n hx hb d_Program_init_4 rfl (lv_at hl 0 rfl) ?_
  refine lv_bipush (v := 8) hx hb d_Program_init_5 (by decide) ?_
  refine zk_newa (atype := .int) (t := 0) (N := 8) (n := 8) G hw zn2_11 rfl (by decide) rfl (by decide) (by decide) (by decide) (by decide) (Nat.le_trans (by decide) hR3) (Nat.le_trans (by decide) hR4) d_Program_init_7 (fun H hw => ?_)
  refine W.widen (k := 1) (n := 8) (by decide) (by decide) ?_
  refine zk_putF (ci := 5) G hw 79 4 (by decide) (by decide) zi_5 t_zd5 t_zd5_ok n_zd5 rfl rfl rfl (by decide) rfl zn2_50 (fun _ h => h) rfl hin rfl (x := 80) (by decide) (t_zd5_ok 4 (by decide)) rfl rfl d_Program_init_9 (fun H locs hw => ?_)
  refine lv_aload_n hx hb d_Program_init_12 rfl (lv_at hl 0 rfl) ?_
  refine lv_iconst (v := 4) hx hb d_Program_init_13 (by decide) ?_
  refine zk_newa (atype := .int) (t := 0) (N := 4) (n := 4) G hw zn2_11 rfl (by decide) rfl (by decide) (by decide) (by decide) (by decide) (Nat.le_trans (by decide) hR3) (Nat.le_trans (by decide) hR4) d_Program_init_14 (fun H hw => ?_)
  refine W.widen (k := 2) (n := 12) (by decide) (by decide) ?_
  refine zk_putF (ci := 5) G hw 79 5 (by decide) (by decide) zi_5 t_zd5 t_zd5_ok n_zd5 rfl rfl rfl (by decide) rfl zn2_51 (fun _ h => h) rfl hin rfl (x := 81) (by decide) (t_zd5_ok 5 (by decide)) rfl rfl d_Program_init_16 (fun H locs hw => ?_)
  refine lv_aload_n hx hb d_Program_init_19 rfl (lv_at hl 0 rfl) ?_
  refine lv_iconst (v := 4) hx hb d_Program_init_20 (by decide) ?_
  refine zk_newa (atype := .int) (t := 0) (N := 4) (n := 4) G hw zn2_11 rfl (by decide) rfl (by decide) (by decide) (by decide) (by decide) (Nat.le_trans (by decide) hR3) (Nat.le_trans (by decide) hR4) d_Program_init_21 (fun H hw => ?_)
  refine W.widen (k := 3) (n := 16) (by decide) (by decide) ?_
  refine zk_putF (ci := 5) G hw 79 6 (by decide) (by decide) zi_5 t_zd5 t_zd5_ok n_zd5 rfl rfl rfl (by decide) rfl zn2_52 (fun _ h => h) rfl hin rfl (x := 82) (by decide) (t_zd5_ok 6 (by decide)) rfl rfl d_Program_init_23 (fun H locs hw => ?_)
  refine lv_aload_n hx hb d_Program_init_26 rfl (lv_at hl 0 rfl) ?_
  refine lv_bipush (v := 50) hx hb d_Program_init_27 (by decide) ?_
  refine zk_newq (t := 7) (N := 50) (n := 50) G hw zn2_53 ((G.2.2.2.2.2.2.1 rfl).2) rfl (by decide) rfl (by decide) (by decide) (by decide) (by decide) (Nat.le_trans (by decide) hR3) (Nat.le_trans (by decide) hR4) d_Program_init_29 (fun H hw => ?_)
  refine W.widen (k := 4) (n := 66) (by decide) (by decide) ?_
  refine zk_putF (ci := 5) G hw 79 7 (by decide) (by decide) zi_5 t_zd5 t_zd5_ok n_zd5 rfl rfl rfl (by decide) rfl zn2_54 (fun _ h => h) rfl hin rfl (x := 83) (by decide) (t_zd5_ok 7 (by decide)) rfl rfl d_Program_init_32 (fun H locs hw => ?_)
  refine lv_iconst (v := 0) hx hb d_Program_init_35 (by decide) ?_
  refine lv_istore_n hx hb d_Program_init_36 rfl hl (by decide) rfl (fun ls hl => ?_)
  have hl : lv_has ls 2 [(1, .int 0), (0, .ref (ad 79))] := hl
  refine lv_iload_n hx hb d_Program_init_37 rfl (lv_at hl 0 rfl) ?_
  refine lv_bipush (v := 50) hx hb d_Program_init_38 (by decide) ?_
  refine lv_icmp_ge hx hb d_Program_init_40 (tgt := 62) rfl (fun hc => absurd hc (by decide)) (fun _ => ?_)
  refine lv_aload_n hx hb d_Program_init_43 rfl (lv_at hl 1 rfl) ?_
  refine zk_get (ci := 5) G hw 79 7 (by decide) zi_5 rfl rfl rfl (by decide) zn2_54 (fun _ h => h) (q := 83) rfl rfl (by decide) d_Program_init_44 ?_
  refine lv_iload_n hx hb d_Program_init_47 rfl (lv_at hl 0 rfl) ?_
  refine zk_new (ci := 6) G hw zi_6 t_zd6 t_zd6_ok rfl rfl rfl (by decide) (zh_6 ad _) zn2_53 zn2_55 zn2_56 (Nat.le_trans (by decide) hR3) (Nat.le_trans (by decide) hR4) d_Program_init_48 (fun H hw => ?_)
  refine W.widen (k := 5) (n := 75) (by decide) (by decide) ?_
  refine lv_dup hx hb d_Program_init_51 rfl ?_
  refine zk_call (rest := [.ref (ad 84), .int 0, .ref (ad 83)]) (o := 84) G hw [] (zk_Statement_init_84 hJ had hA) (cwI 0 hts (zs_gC zn2_60) rfl rfl rfl (hts _ zn2_56) (hts _ zn2_61) (hts _ zn2_62) rfl (by decide +kernel) ⟨Nat.le_trans (by decide) hR1, Nat.le_trans (by decide) hR2⟩) rfl hl.1 (Nat.le_of_ble_eq_true rfl) d_Program_init_52 ⟨Nat.le_trans (by decide) hR3, Nat.le_trans (by decide) hR4⟩ (fun H locs hw => ?_)
  refine W.widen (k := 5) (n := 75) (by decide) (by decide) ?_
  refine zk_aast (t := 7) (n := 50) (ci := 6) (x := 84) (i := 0) G hw 83 (by decide) (by decide) rfl rfl (by decide) rfl (by decide) rfl rfl (by decide) d_Program_init_55 (fun H locs hw => ?_)
  refine lv_iinc (v := 1) hx hb d_Program_init_56 hl (k := 0) rfl (by decide) (by decide) rfl (fun ls hl => ?_)
  have hl : lv_has ls 2 [(1, .int 1), (0, .ref (ad 79))] := hl
  refine lv_goto hx hb d_Program_init_59 (tgt := 37) rfl ?_
  refine lv_iload_n hx hb d_Program_init_37 rfl (lv_at hl 0 rfl) ?_
  refine lv_bipush (v := 50) hx hb d_Program_init_38 (by decide) ?_
  refine lv_icmp_ge hx hb d_Program_init_40 (tgt := 62) rfl (fun hc => absurd hc (by decide)) (fun _ => ?_)
  refine lv_aload_n hx hb d_Program_init_43 rfl (lv_at hl 1 rfl) ?_
  refine zk_get (ci := 5) G hw 79 7 (by decide) zi_5 rfl rfl rfl (by decide) zn2_54 (fun _ h => h) (q := 83) rfl rfl (by decide) d_Program_init_44 ?_
  refine lv_iload_n hx hb d_Program_init_47 rfl (lv_at hl 0 rfl) ?_
  refine zk_new (ci := 6) G hw zi_6 t_zd6 t_zd6_ok rfl rfl rfl (by decide) (zh_6 ad _) zn2_53 zn2_55 zn2_56 (Nat.le_trans (by decide) hR3) (Nat.le_trans (by decide) hR4) d_Program_init_48 (fun H hw => ?_)
  refine W.widen (k := 6) (n := 84) (by decide) (by decide) ?_
  refine lv_dup hx hb d_Program_init_51 rfl ?_
  refine zk_call (rest := [.ref (ad 85), .int 1, .ref (ad 83)]) (o := 85) G hw [] (zk_Statement_init_85 hJ had hA) (cwI 0 hts (zs_gC zn2_60) rfl rfl rfl (hts _ zn2_56) (hts _ zn2_61) (hts _ zn2_62) rfl (by decide +kernel) ⟨Nat.le_trans (by decide) hR1, Nat.le_trans (by decide) hR2⟩) rfl hl.1 (Nat.le_of_ble_eq_true rfl) d_Program_init_52 ⟨Nat.le_trans (by decide) hR3, Nat.le_trans (by decide) hR4⟩ (fun H locs hw => ?_)
  refine W.widen (k := 6) (n := 84) (by decide) (by decide) ?_
  refine zk_aast (t := 7) (n := 50) (ci := 6) (x := 85) (i := 1) G hw 83 (by decide) (by decide) rfl rfl (by decide) rfl (by decide) rfl rfl (by decide) d_Program_init_55 (fun H locs hw => ?_)
  refine lv_iinc (v := 2) hx hb d_Program_init_56 hl (k := 0) rfl (by decide) (by decide) rfl (fun ls hl => ?_)
  have hl : lv_has ls 2 [(1, .int 2), (0, .ref (ad 79))] := hl
  refine lv_goto hx hb d_Program_init_59 (tgt := 37) rfl ?_
  refine lv_iload_n hx hb d_Program_init_37 rfl (lv_at hl 0 rfl) ?_
  refine lv_bipush (v := 50) hx hb d_Program_init_38 (by decide) ?_
  refine lv_icmp_ge hx hb d_Program_init_40 (tgt := 62) rfl (fun hc => absurd hc (by decide)) (fun _ => ?_)
  refine lv_aload_n hx hb d_Program_init_43 rfl (lv_at hl 1 rfl) ?_
  refine zk_get (ci := 5) G hw 79 7 (by decide) zi_5 rfl rfl rfl (by decide) zn2_54 (fun _ h => h) (q := 83) rfl rfl (by decide) d_Program_init_44 ?_
  refine lv_iload_n hx hb d_Program_init_47 rfl (lv_at hl 0 rfl) ?_
  refine zk_new (ci := 6) G hw zi_6 t_zd6 t_zd6_ok rfl rfl rfl (by decide) (zh_6 ad _) zn2_53 zn2_55 zn2_56 (Nat.le_trans (by decide) hR3) (Nat.le_trans (by decide) hR4) d_Program_init_48 (fun H hw => ?_)
  refine W.widen (k := 7) (n := 93) (by decide) (by decide) ?_
  refine lv_dup hx hb d_Program_init_51 rfl ?_
  refine zk_call (rest := [.ref (ad 86), .int 2, .ref (ad 83)]) (o := 86) G hw [] (zk_Statement_init_86 hJ had hA) (cwI 0 hts (zs_gC zn2_60) rfl rfl rfl (hts _ zn2_56) (hts _ zn2_61) (hts _ zn2_62) rfl (by decide +kernel) ⟨Nat.le_trans (by decide) hR1, Nat.le_trans (by decide) hR2⟩) rfl hl.1 (Nat.le_of_ble_eq_true rfl) d_Program_init_52 ⟨Nat.le_trans (by decide) hR3, Nat.le_trans (by decide) hR4⟩ (fun H locs hw => ?_)
  refine W.widen (k := 7) (n := 93) (by decide) (by decide) ?_
  refine zk_aast (t := 7) (n := 50) (ci := 6) (x := 86) (i := 2) G hw 83 (by decide) (by decide) rfl rfl (by decide) rfl (by decide) rfl rfl (by decide) d_Program_init_55 (fun H locs hw => ?_)
  refine lv_iinc (v := 3) hx hb d_Program_init_56 hl (k := 0) rfl (by decide) (by decide) rfl (fun ls hl => ?_)
  have hl : lv_has ls 2 [(1, .int 3), (0, .ref (ad 79))] := hl
  refine lv_goto hx hb d_Program_init_59 (tgt := 37) rfl ?_
  refine lv_iload_n hx hb d_Program_init_37 rfl (lv_at hl 0 rfl) ?_
  refine lv_bipush (v := 50) hx hb d_Program_init_38 (by decide) ?_
  refine lv_icmp_ge hx hb d_Program_init_40 (tgt := 62) rfl (fun hc => absurd hc (by decide)) (fun _ => ?_)
  refine lv_aload_n hx hb d_Program_init_43 rfl (lv_at hl 1 rfl) ?_
  refine zk_get (ci := 5) G hw 79 7 (by decide) zi_5 rfl rfl rfl (by decide) zn2_54 (fun _ h => h) (q := 83) rfl rfl (by decide) d_Program_init_44 ?_
  refine lv_iload_n hx hb d_Program_init_47 rfl (lv_at hl 0 rfl) ?_
  refine zk_new (ci := 6) G hw zi_6 t_zd6 t_zd6_ok rfl rfl rfl (by decide) (zh_6 ad _) zn2_53 zn2_55 zn2_56 (Nat.le_trans (by decide) hR3) (Nat.le_trans (by decide) hR4) d_Program_init_48 (fun H hw => ?_)
  refine W.widen (k := 8) (n := 102) (by decide) (by decide) ?_
  refine lv_dup hx hb d_Program_init_51 rfl ?_
  refine zk_call (rest := [.ref (ad 87), .int 3, .ref (ad 83)]) (o := 87) G hw [] (zk_Statement_init_87 hJ had hA) (cwI 0 hts (zs_gC zn2_60) rfl rfl rfl (hts _ zn2_56) (hts _ zn2_61) (hts _ zn2_62) rfl (by decide +kernel) ⟨Nat.le_trans (by decide) hR1, Nat.le_trans (by decide) hR2⟩) rfl hl.1 (Nat.le_of_ble_eq_true rfl) d_Program_init_52 ⟨Nat.le_trans (by decide) hR3, Nat.le_trans (by decide) hR4⟩ (fun H locs hw => ?_)
  refine W.widen (k := 8) (n := 102) (by decide) (by decide) ?_
  refine zk_aast (t := 7) (n := 50) (ci := 6) (x := 87) (i := 3) G hw 83 (by decide) (by decide) rfl rfl (by decide) rfl (by decide) rfl rfl (by decide) d_Program_init_55 (fun H locs hw => ?_)
  refine lv_iinc (v := 4) hx hb d_Program_init_56 hl (k := 0) rfl (by decide) (by decide) rfl (fun ls hl => ?_)
  have hl : lv_has ls 2 [(1, .int 4), (0, .ref (ad 79))] := hl
  refine lv_goto hx hb d_Program_init_59 (tgt := 37) rfl ?_
  refine lv_iload_n hx hb d_Program_init_37 rfl (lv_at hl 0 rfl) ?_
  refine lv_bipush (v := 50) hx hb d_Program_init_38 (by decide) ?_
  refine lv_icmp_ge hx hb d_Program_init_40 (tgt := 62) rfl (fun hc => absurd hc (by decide)) (fun _ => ?_)
  refine lv_aload_n hx hb d_Program_init_43 rfl (lv_at hl 1 rfl) ?_
  refine zk_get (ci := 5) G hw 79 7 (by decide) zi_5 rfl rfl rfl (by decide) zn2_54 (fun _ h => h) (q := 83) rfl rfl (by decide) d_Program_init_44 ?_
  refine lv_iload_n hx hb d_Program_init_47 rfl (lv_at hl 0 rfl) ?_
  refine zk_new (ci := 6) G hw zi_6 t_zd6 t_zd6_ok rfl rfl rfl (by decide) (zh_6 ad _) zn2_53 zn2_55 zn2_56 (Nat.le_trans (by decide) hR3) (Nat.le_trans (by decide) hR4) d_Program_init_48 (fun H hw => ?_)
  refine W.widen (k := 9) (n := 111) (by decide) (by decide) ?_
  refine lv_dup hx hb d_Program_init_51 rfl ?_
  refine zk_call (rest := [.ref (ad 88), .int 4, .ref (ad 83)]) (o := 88) G hw [] (zk_Statement_init_88 hJ had hA) (cwI 0 hts (zs_gC zn2_60) rfl rfl rfl (hts _ zn2_56) (hts _ zn2_61) (hts _ zn2_62) rfl (by decide +kernel) ⟨Nat.le_trans (by decide) hR1, Nat.le_trans (by decide) hR2⟩) rfl hl.1 (Nat.le_of_ble_eq_true rfl) d_Program_init_52 ⟨Nat.le_trans (by decide) hR3, Nat.le_trans (by decide) hR4⟩ (fun H locs hw => ?_)
  refine W.widen (k := 9) (n := 111) (by decide) (by decide) ?_
  refine zk_aast (t := 7) (n := 50) (ci := 6) (x := 88) (i := 4) G hw 83 (by decide) (by decide) rfl rfl (by decide) rfl (by decide) rfl rfl (by decide) d_Program_init_55 (fun H locs hw => ?_)
  refine lv_iinc (v := 5) hx hb d_Program_init_56 hl (k := 0) rfl (by decide) (by decide) rfl (fun ls hl => ?_)
  have hl : lv_has ls 2 [(1, .int 5), (0, .ref (ad 79))] := hl
  refine lv_goto hx hb d_Program_init_59 (tgt := 37) rfl ?_
  refine lv_iload_n hx hb d_Program_init_37 rfl (lv_at hl 0 rfl) ?_
  refine lv_bipush (v := 50) hx hb d_Program_init_38 (by decide) ?_
  refine lv_icmp_ge hx hb d_Program_init_40 (tgt := 62) rfl (fun hc => absurd hc (by decide)) (fun _ => ?_)
  refine lv_aload_n hx hb d_Program_init_43 rfl (lv_at hl 1 rfl) ?_
  refine zk_get (ci := 5) G hw 79 7 (by decide) zi_5 rfl rfl rfl (by decide) zn2_54 (fun _ h => h) (q := 83) rfl rfl (by decide) d_Program_init_44 ?_
  refine lv_iload_n hx hb d_Program_init_47 rfl (lv_at hl 0 rfl) ?_
  refine zk_new (ci := 6) G hw zi_6 t_zd6 t_zd6_ok rfl rfl rfl (by decide) (zh_6 ad _) zn2_53 zn2_55 zn2_56 (Nat.le_trans (by decide) hR3) (Nat.le_trans (by decide) hR4) d_Program_init_48 (fun H hw => ?_)
  refine W.widen (k := 10) (n := 120) (by decide) (by decide) ?_
  refine lv_dup hx hb d_Program_init_51 rfl ?_
  refine zk_call (rest := [.ref (ad 89), .int 5, .ref (ad 83)]) (o := 89) G hw [] (zk_Statement_init_89 hJ had hA) (cwI 0 hts (zs_gC zn2_60) rfl rfl rfl (hts _ zn2_56) (hts _ zn2_61) (hts _ zn2_62) rfl (by decide +kernel) ⟨Nat.le_trans (by decide) hR1, Nat.le_trans (by decide) hR2⟩) rfl hl.1 (Nat.le_of_ble_eq_true rfl) d_Program_init_52 ⟨Nat.le_trans (by decide) hR3, Nat.le_trans (by decide) hR4⟩ (fun H locs hw => ?_)
  refine W.widen (k := 10) (n := 120) (by decide) (by decide) ?_
  refine zk_aast (t := 7) (n := 50) (ci := 6) (x := 89) (i := 5) G hw 83 (by decide) (by decide) rfl rfl (by decide) rfl (by decide) rfl rfl (by decide) d_Program_init_55 (fun H locs hw => ?_)
  refine lv_iinc (v := 6) hx hb d_Program_init_56 hl (k := 0) rfl (by decide) (by decide) rfl (fun ls hl => ?_)
  have hl : lv_has ls 2 [(1, .int 6), (0, .ref (ad 79))] := hl
  refine lv_goto hx hb d_Program_init_59 (tgt := 37) rfl ?_
  refine lv_iload_n hx hb d_Program_init_37 rfl (lv_at hl 0 rfl) ?_
  refine lv_bipush (v := 50) hx hb d_Program_init_38 (by decide) ?_
  refine lv_icmp_ge hx hb d_Program_init_40 (tgt := 62) rfl (fun hc => absurd hc (by decide)) (fun _ => ?_)
  refine lv_aload_n hx hb d_Program_init_43 rfl (lv_at hl 1 rfl) ?_
  refine zk_get (ci := 5) G hw 79 7 (by decide) zi_5 rfl rfl rfl (by decide) zn2_54 (fun _ h => h) (q := 83) rfl rfl (by decide) d_Program_init_44 ?_
  refine lv_iload_n hx hb d_Program_init_47 rfl (lv_at hl 0 rfl) ?_
  refine zk_new (ci := 6) G hw zi_6 t_zd6 t_zd6_ok rfl rfl rfl (by decide) (zh_6 ad _) zn2_53 zn2_55 zn2_56 (Nat.le_trans (by decide) hR3) (Nat.le_trans (by decide) hR4) d_Program_init_48 (fun H hw => ?_)
  refine W.widen (k := 11) (n := 129) (by decide) (by decide) ?_
  refine lv_dup hx hb d_Program_init_51 rfl ?_
  refine zk_call (rest := [.ref (ad 90), .int 6, .ref (ad 83)]) (o := 90) G hw [] (zk_Statement_init_90 hJ had hA) (cwI 0 hts (zs_gC zn2_60) rfl rfl rfl (hts _ zn2_56) (hts _ zn2_61) (hts _ zn2_62) rfl (by decide +kernel) ⟨Nat.le_trans (by decide) hR1, Nat.le_trans (by decide) hR2⟩) rfl hl.1 (Nat.le_of_ble_eq_true rfl) d_Program_init_52 ⟨Nat.le_trans (by decide) hR3, Nat.le_trans (by decide) hR4⟩ (fun H locs hw => ?_)
  refine W.widen (k := 11) (n := 129) (by decide) (by decide) ?_
  refine zk_aast (t := 7) (n := 50) (ci := 6) (x := 90) (i := 6) G hw 83 (by decide) (by decide) rfl rfl (by decide) rfl (by decide) rfl rfl (by decide) d_Program_init_55 (fun H locs hw => ?_)
  refine lv_iinc (v := 7) hx hb d_Program_init_56 hl (k := 0) rfl (by decide) (by decide) rfl (fun ls hl => ?_)
  have hl : lv_has ls 2 [(1, .int 7), (0, .ref (ad 79))] := hl
  refine lv_goto hx hb d_Program_init_59 (tgt := 37) rfl ?_
  refine lv_iload_n hx hb d_Program_init_37 rfl (lv_at hl 0 rfl) ?_
  refine lv_bipush (v := 50) hx hb d_Program_init_38 (by decide) ?_
  refine lv_icmp_ge hx hb d_Program_init_40 (tgt := 62) rfl (fun hc => absurd hc (by decide)) (fun _ => ?_)
  refine lv_aload_n hx hb d_Program_init_43 rfl (lv_at hl 1 rfl) ?_
  refine zk_get (ci := 5) G hw 79 7 (by decide) zi_5 rfl rfl rfl (by decide) zn2_54 (fun _ h => h) (q := 83) rfl rfl (by decide) d_Program_init_44 ?_
  refine lv_iload_n hx hb d_Program_init_47 rfl (lv_at hl 0 rfl) ?_
  refine zk_new (ci := 6) G hw zi_6 t_zd6 t_zd6_ok rfl rfl rfl (by decide) (zh_6 ad _) zn2_53 zn2_55 zn2_56 (Nat.le_trans (by decide) hR3) (Nat.le_trans (by decide) hR4) d_Program_init_48 (fun H hw => ?_)
  refine W.widen (k := 12) (n := 138) (by decide) (by decide) ?_
  refine lv_dup hx hb d_Program_init_51 rfl ?_
  refine zk_call (rest := [.ref (ad 91), .int 7, .ref (ad 83)]) (o := 91) G hw [] (zk_Statement_init_91 hJ had hA) (cwI 0 hts (zs_gC zn2_60) rfl rfl rfl (hts _ zn2_56) (hts _ zn2_61) (hts _ zn2_62) rfl (by decide +kernel) ⟨Nat.le_trans (by decide) hR1, Nat.le_trans (by decide) hR2⟩) rfl hl.1 (Nat.le_of_ble_eq_true rfl) d_Program_init_52 ⟨Nat.le_trans (by decide) hR3, Nat.le_trans (by decide) hR4⟩ (fun H locs hw => ?_)
  refine W.widen (k := 12) (n := 138) (by decide) (by decide) ?_
  refine zk_aast (t := 7) (n := 50) (ci := 6) (x := 91) (i := 7) G hw 83 (by decide) (by decide) rfl rfl (by decide) rfl (by decide) rfl rfl (by decide) d_Program_init_55 (fun H locs hw => ?_)
  refine lv_iinc (v := 8) hx hb d_Program_init_56 hl (k := 0) rfl (by decide) (by decide) rfl (fun ls hl => ?_)
  have hl : lv_has ls 2 [(1, .int 8), (0, .ref (ad 79))] := hl
  refine lv_goto hx hb d_Program_init_59 (tgt := 37) rfl ?_
  refine lv_iload_n hx hb d_Program_init_37 rfl (lv_at hl 0 rfl) ?_
  refine lv_bipush (v := 50) hx hb d_Program_init_38 (by decide) ?_
  refine lv_icmp_ge hx hb d_Program_init_40 (tgt := 62) rfl (fun hc => absurd hc (by decide)) (fun _ => ?_)
  refine lv_aload_n hx hb d_Program_init_43 rfl (lv_at hl 1 rfl) ?_
  refine zk_get (ci := 5) G hw 79 7 (by decide) zi_5 rfl rfl rfl (by decide) zn2_54 (fun _ h => h) (q := 83) rfl rfl (by decide) d_Program_init_44 ?_
  refine lv_iload_n hx hb d_Program_init_47 rfl (lv_at hl 0 rfl) ?_
  refine zk_new (ci := 6) G hw zi_6 t_zd6 t_zd6_ok rfl rfl rfl (by decide) (zh_6 ad _) zn2_53 zn2_55 zn2_56 (Nat.le_trans (by decide) hR3) (Nat.le_trans (by decide) hR4) d_Program_init_48 (fun H hw => ?_)
  refine W.widen (k := 13) (n := 147) (by decide) (by decide) ?_
  refine lv_dup hx hb d_Program_init_51 rfl ?_
  refine zk_call (rest := [.ref (ad 92), .int 8, .ref (ad 83)]) (o := 92) G hw [] (zk_Statement_init_92 hJ had hA) (cwI 0 hts (zs_gC zn2_60) rfl rfl rfl (hts _ zn2_56) (hts _ zn2_61) (hts _ zn2_62) rfl (by decide +kernel) ⟨Nat.le_trans (by decide) hR1, Nat.le_trans (by decide) hR2⟩) rfl hl.1 (Nat.le_of_ble_eq_true rfl) d_Program_init_52 ⟨Nat.le_trans (by decide) hR3, Nat.le_trans (by decide) hR4⟩ (fun H locs hw => ?_)
  refine W.widen (k := 13) (n := 147) (by decide) (by decide) ?_
  refine zk_aast (t := 7) (n := 50) (ci := 6) (x := 92) (i := 8) G hw 83 (by decide) (by decide) rfl rfl (by decide) rfl (by decide) rfl rfl (by decide) d_Program_init_55 (fun H locs hw => ?_)
  refine lv_iinc (v := 9) hx hb d_Program_init_56 hl (k := 0) rfl (by decide) (by decide) rfl (fun ls hl => ?_)
  have hl : lv_has ls 2 [(1, .int 9), (0, .ref (ad 79))] := hl
  refine lv_goto hx hb d_Program_init_59 (tgt := 37) rfl ?_
  refine lv_iload_n hx hb d_Program_init_37 rfl (lv_at hl 0 rfl) ?_
  refine lv_bipush (v := 50) hx hb d_Program_init_38 (by decide) ?_
  refine lv_icmp_ge hx hb d_Program_init_40 (tgt := 62) rfl (fun hc => absurd hc (by decide)) (fun _ => ?_)
  refine lv_aload_n hx hb d_Program_init_43 rfl (lv_at hl 1 rfl) ?_
  refine zk_get (ci := 5) G hw 79 7 (by decide) zi_5 rfl rfl rfl (by decide) zn2_54 (fun _ h => h) (q := 83) rfl rfl (by decide) d_Program_init_44 ?_
  refine lv_iload_n hx hb d_Program_init_47 rfl (lv_at hl 0 rfl) ?_
  refine zk_new (ci := 6) G hw zi_6 t_zd6 t_zd6_ok rfl rfl rfl (by decide) (zh_6 ad _) zn2_53 zn2_55 zn2_56 (Nat.le_trans (by decide) hR3) (Nat.le_trans (by decide) hR4) d_Program_init_48 (fun H hw => ?_)
  refine W.widen (k := 14) (n := 156) (by decide) (by decide) ?_
  refine lv_dup hx hb d_Program_init_51 rfl ?_
  refine zk_call (rest := [.ref (ad 93), .int 9, .ref (ad 83)]) (o := 93) G hw [] (zk_Statement_init_93 hJ had hA) (cwI 0 hts (zs_gC zn2_60) rfl rfl rfl (hts _ zn2_56) (hts _ zn2_61) (hts _ zn2_62) rfl (by decide +kernel) ⟨Nat.le_trans (by decide) hR1, Nat.le_trans (by decide) hR2⟩) rfl hl.1 (Nat.le_of_ble_eq_true rfl) d_Program_init_52 ⟨Nat.le_trans (by decide) hR3, Nat.le_trans (by decide) hR4⟩ (fun H locs hw => ?_)
  refine W.widen (k := 14) (n := 156) (by decide) (by decide) ?_
  refine zk_aast (t := 7) (n := 50) (ci := 6) (x := 93) (i := 9) G hw 83 (by decide) (by decide) rfl rfl (by decide) rfl (by decide) rfl rfl (by decide) d_Program_init_55 (fun H locs hw => ?_)
  refine lv_iinc (v := 10) hx hb d_Program_init_56 hl (k := 0) rfl (by decide) (by decide) rfl (fun ls hl => ?_)
  have hl : lv_has ls 2 [(1, .int 10), (0, .ref (ad 79))] := hl
  refine lv_goto hx hb d_Program_init_59 (tgt := 37) rfl ?_
  refine lv_iload_n hx hb d_Program_init_37 rfl (lv_at hl 0 rfl) ?_
  refine lv_bipush (v := 50) hx hb d_Program_init_38 (by decide) ?_
  refine lv_icmp_ge hx hb d_Program_init_40 (tgt := 62) rfl (fun hc => absurd hc (by decide)) (fun _ => ?_)
  refine lv_aload_n hx hb d_Program_init_43 rfl (lv_at hl 1 rfl) ?_
  refine zk_get (ci := 5) G hw 79 7 (by decide) zi_5 rfl rfl rfl (by decide) zn2_54 (fun _ h => h) (q := 83) rfl rfl (by decide) d_Program_init_44 ?_
  refine lv_iload_n hx hb d_Program_init_47 rfl (lv_at hl 0 rfl) ?_
  refine zk_new (ci := 6) G hw zi_6 t_zd6 t_zd6_ok rfl rfl rfl (by decide) (zh_6 ad _) zn2_53 zn2_55 zn2_56 (Nat.le_trans (by decide) hR3) (Nat.le_trans (by decide) hR4) d_Program_init_48 (fun H hw => ?_)
  refine W.widen (k := 15) (n := 165) (by decide) (by decide) ?_
  refine lv_dup hx hb d_Program_init_51 rfl ?_
  refine zk_call (rest := [.ref (ad 94), .int 10, .ref (ad 83)]) (o := 94) G hw [] (zk_Statement_init_94 hJ had hA) (cwI 0 hts (zs_gC zn2_60) rfl rfl rfl (hts _ zn2_56) (hts _ zn2_61) (hts _ zn2_62) rfl (by decide +kernel) ⟨Nat.le_trans (by decide) hR1, Nat.le_trans (by decide) hR2⟩) rfl hl.1 (Nat.le_of_ble_eq_true rfl) d_Program_init_52 ⟨Nat.le_trans (by decide) hR3, Nat.le_trans (by decide) hR4⟩ (fun H locs hw => ?_)
  refine W.widen (k := 15) (n := 165) (by decide) (by decide) ?_
  refine zk_aast (t := 7) (n := 50) (ci := 6) (x := 94) (i := 10) G hw 83 (by decide) (by decide) rfl rfl (by decide) rfl (by decide) rfl rfl (by decide) d_Program_init_55 (fun H locs hw => ?_)
  refine lv_iinc (v := 11) hx hb d_Program_init_56 hl (k := 0) rfl (by decide) (by decide) rfl (fun ls hl => ?_)
  have hl : lv_has ls 2 [(1, .int 11), (0, .ref (ad 79))] := hl
  refine lv_goto hx hb d_Program_init_59 (tgt := 37) rfl ?_
  refine lv_iload_n hx hb d_Program_init_37 rfl (lv_at hl 0 rfl) ?_
  refine lv_bipush (v := 50) hx hb d_Program_init_38 (by decide) ?_
  refine lv_icmp_ge hx hb d_Program_init_40 (tgt := 62) rfl (fun hc => absurd hc (by decide)) (fun _ => ?_)
  refine lv_aload_n hx hb d_Program_init_43 rfl (lv_at hl 1 rfl) ?_
  refine zk_get (ci := 5) G hw 79 7 (by decide) zi_5 rfl rfl rfl (by decide) zn2_54 (fun _ h => h) (q := 83) rfl rfl (by decide) d_Program_init_44 ?_
  refine lv_iload_n hx hb d_Program_init_47 rfl (lv_at hl 0 rfl) ?_
  refine zk_new (ci := 6) G hw zi_6 t_zd6 t_zd6_ok rfl rfl rfl (by decide) (zh_6 ad _) zn2_53 zn2_55 zn2_56 (Nat.le_trans (by decide) hR3) (Nat.le_trans (by decide) hR4) d_Program_init_48 (fun H hw => ?_)
  refine W.widen (k := 16) (n := 174) (by decide) (by decide) ?_
  refine lv_dup hx hb d_Program_init_51 rfl ?_
  refine zk_call (rest := [.ref (ad 95), .int 11, .ref (ad 83)]) (o := 95) G hw [] (zk_Statement_init_95 hJ had hA) (cwI 0 hts (zs_gC zn2_60) rfl rfl rfl (hts _ zn2_56) (hts _ zn2_61) (hts _ zn2_62) rfl (by decide +kernel) ⟨Nat.le_trans (by decide) hR1, Nat.le_trans (by decide) hR2⟩) rfl hl.1 (Nat.le_of_ble_eq_true rfl) d_Program_init_52 ⟨Nat.le_trans (by decide) hR3, Nat.le_trans (by decide) hR4⟩ (fun H locs hw => ?_)
  refine W.widen (k := 16) (n := 174) (by decide) (by decide) ?_
  refine zk_aast (t := 7) (n := 50) (ci := 6) (x := 95) (i := 11) G hw 83 (by decide) (by decide) rfl rfl (by decide) rfl (by decide) rfl rfl (by decide) d_Program_init_55 (fun H locs hw => ?_)
  refine lv_iinc (v := 12) hx hb d_Program_init_56 hl (k := 0) rfl (by decide) (by decide) rfl (fun ls hl => ?_)
  have hl : lv_has ls 2 [(1, .int 12), (0, .ref (ad 79))] := hl
  refine lv_goto hx hb d_Program_init_59 (tgt := 37) rfl ?_
  refine lv_iload_n hx hb d_Program_init_37 rfl (lv_at hl 0 rfl) ?_
  refine lv_bipush (v := 50) hx hb d_Program_init_38 (by decide) ?_
  refine lv_icmp_ge hx hb d_Program_init_40 (tgt := 62) rfl (fun hc => absurd hc (by decide)) (fun _ => ?_)
  refine lv_aload_n hx hb d_Program_init_43 rfl (lv_at hl 1 rfl) ?_
  refine zk_get (ci := 5) G hw 79 7 (by decide) zi_5 rfl rfl rfl (by decide) zn2_54 (fun _ h => h) (q := 83) rfl rfl (by decide) d_Program_init_44 ?_
  refine lv_iload_n hx hb d_Program_init_47 rfl (lv_at hl 0 rfl) ?_
  refine zk_new (ci := 6) G hw zi_6 t_zd6 t_zd6_ok rfl rfl rfl (by decide) (zh_6 ad _) zn2_53 zn2_55 zn2_56 (Nat.le_trans (by decide) hR3) (Nat.le_trans (by decide) hR4) d_Program_init_48 (fun H hw => ?_)
  refine W.widen (k := 17) (n := 183) (by decide) (by decide) ?_
  refine lv_dup hx hb d_Program_init_51 rfl ?_
  refine zk_call (rest := [.ref (ad 96), .int 12, .ref (ad 83)]) (o := 96) G hw [] (zk_Statement_init_96 hJ had hA) (cwI 0 hts (zs_gC zn2_60) rfl rfl rfl (hts _ zn2_56) (hts _ zn2_61) (hts _ zn2_62) rfl (by decide +kernel) ⟨Nat.le_trans (by decide) hR1, Nat.le_trans (by decide) hR2⟩) rfl hl.1 (Nat.le_of_ble_eq_true rfl) d_Program_init_52 ⟨Nat.le_trans (by decide) hR3, Nat.le_trans (by decide) hR4⟩ (fun H locs hw => ?_)
  refine W.widen (k := 17) (n := 183) (by decide) (by decide) ?_
  refine zk_aast (t := 7) (n := 50) (ci := 6) (x := 96) (i := 12) G hw 83 (by decide) (by decide) rfl rfl (by decide) rfl (by decide) rfl rfl (by decide) d_Program_init_55 (fun H locs hw => ?_)
  refine lv_iinc (v := 13) hx hb d_Program_init_56 hl (k := 0) rfl (by decide) (by decide) rfl (fun ls hl => ?_)
  have hl : lv_has ls 2 [(1, .int 13), (0, .ref (ad 79))] := hl
  refine lv_goto hx hb d_Program_init_59 (tgt := 37) rfl ?_
  refine lv_iload_n hx hb d_Program_init_37 rfl (lv_at hl 0 rfl) ?_
  refine lv_bipush (v := 50) hx hb d_Program_init_38 (by decide) ?_
  refine lv_icmp_ge hx hb d_Program_init_40 (tgt := 62) rfl (fun hc => absurd hc (by decide)) (fun _ => ?_)
  refine lv_aload_n hx hb d_Program_init_43 rfl (lv_at hl 1 rfl) ?_
  refine zk_get (ci := 5) G hw 79 7 (by decide) zi_5 rfl rfl rfl (by decide) zn2_54 (fun _ h => h) (q := 83) rfl rfl (by decide) d_Program_init_44 ?_
  refine lv_iload_n hx hb d_Program_init_47 rfl (lv_at hl 0 rfl) ?_
  refine zk_new (ci := 6) G hw zi_6 t_zd6 t_zd6_ok rfl rfl rfl (by decide) (zh_6 ad _) zn2_53 zn2_55 zn2_56 (Nat.le_trans (by decide) hR3) (Nat.le_trans (by decide) hR4) d_Program_init_48 (fun H hw => ?_)
  refine W.widen (k := 18) (n := 192) (by decide) (by decide) ?_
  refine lv_dup hx hb d_Program_init_51 rfl ?_
  refine zk_call (rest := [.ref (ad 97), .int 13, .ref (ad 83)]) (o := 97) G hw [] (zk_Statement_init_97 hJ had hA) (cwI 0 hts (zs_gC zn2_60) rfl rfl rfl (hts _ zn2_56) (hts _ zn2_61) (hts _ zn2_62) rfl (by decide +kernel) ⟨Nat.le_trans (by decide) hR1, Nat.le_trans (by decide) hR2⟩) rfl hl.1 (Nat.le_of_ble_eq_true rfl) d_Program_init_52 ⟨Nat.le_trans (by decide) hR3, Nat.le_trans (by decide) hR4⟩ (fun H locs hw => ?_)
  refine W.widen (k := 18) (n := 192) (by decide) (by decide) ?_
  refine zk_aast (t := 7) (n := 50) (ci := 6) (x := 97) (i := 13) G hw 83 (by decide) (by decide) rfl rfl (by decide) rfl (by decide) rfl rfl (by decide) d_Program_init_55 (fun H locs hw => ?_)
  refine lv_iinc (v := 14) hx hb d_Program_init_56 hl (k := 0) rfl (by decide) (by decide) rfl (fun ls hl => ?_)
  have hl : lv_has ls 2 [(1, .int 14), (0, .ref (ad 79))] := hl
  refine lv_goto hx hb d_Program_init_59 (tgt := 37) rfl ?_
  refine lv_iload_n hx hb d_Program_init_37 rfl (lv_at hl 0 rfl) ?_
  refine lv_bipush (v := 50) hx hb d_Program_init_38 (by decide) ?_
  refine lv_icmp_ge hx hb d_Program_init_40 (tgt := 62) rfl (fun hc => absurd hc (by decide)) (fun _ => ?_)
  refine lv_aload_n hx hb d_Program_init_43 rfl (lv_at hl 1 rfl) ?_
  refine zk_get (ci := 5) G hw 79 7 (by decide) zi_5 rfl rfl rfl (by decide) zn2_54 (fun _ h => h) (q := 83) rfl rfl (by decide) d_Program_init_44 ?_
  refine lv_iload_n hx hb d_Program_init_47 rfl (lv_at hl 0 rfl) ?_
  refine zk_new (ci := 6) G hw zi_6 t_zd6 t_zd6_ok rfl rfl rfl (by decide) (zh_6 ad _) zn2_53 zn2_55 zn2_56 (Nat.le_trans (by decide) hR3) (Nat.le_trans (by decide) hR4) d_Program_init_48 (fun H hw => ?_)
  refine W.widen (k := 19) (n := 201) (by decide) (by decide) ?_
  refine lv_dup hx hb d_Program_init_51 rfl ?_
  refine zk_call (rest := [.ref (ad 98), .int 14, .ref (ad 83)]) (o := 98) G hw [] (zk_Statement_init_98 hJ had hA) (cwI 0 hts (zs_gC zn2_60) rfl rfl rfl (hts _ zn2_56) (hts _ zn2_61) (hts _ zn2_62) rfl (by decide +kernel) ⟨Nat.le_trans (by decide) hR1, Nat.le_trans (by decide) hR2⟩) rfl hl.1 (Nat.le_of_ble_eq_true rfl) d_Program_init_52 ⟨Nat.le_trans (by decide) hR3, Nat.le_trans (by decide) hR4⟩ (fun H locs hw => ?_)
  refine W.widen (k := 19) (n := 201) (by decide) (by decide) ?_
  refine zk_aast (t := 7) (n := 50) (ci := 6) (x := 98) (i := 14) G hw 83 (by decide) (by decide) rfl rfl (by decide) rfl (by decide) rfl rfl (by decide) d_Program_init_55 (fun H locs hw => ?_)
  refine lv_iinc (v := 15) hx hb d_Program_init_56 hl (k := 0) rfl (by decide) (by decide) rfl (fun ls hl => ?_)
  have hl : lv_has ls 2 [(1, .int 15), (0, .ref (ad 79))] := hl
  refine lv_goto hx hb d_Program_init_59 (tgt := 37) rfl ?_
  refine lv_iload_n hx hb d_Program_init_37 rfl (lv_at hl 0 rfl) ?_
  refine lv_bipush (v := 50) hx hb d_Program_init_38 (by decide) ?_
  refine lv_icmp_ge hx hb d_Program_init_40 (tgt := 62) rfl (fun hc => absurd hc (by decide)) (fun _ => ?_)
  refine lv_aload_n hx hb d_Program_init_43 rfl (lv_at hl 1 rfl) ?_
  refine zk_get (ci := 5) G hw 79 7 (by decide) zi_5 rfl rfl rfl (by decide) zn2_54 (fun _ h => h) (q := 83) rfl rfl (by decide) d_Program_init_44 ?_
  refine lv_iload_n hx hb d_Program_init_47 rfl (lv_at hl 0 rfl) ?_
  refine zk_new (ci := 6) G hw zi_6 t_zd6 t_zd6_ok rfl rfl rfl (by decide) (zh_6 ad _) zn2_53 zn2_55 zn2_56 (Nat.le_trans (by decide) hR3) (Nat.le_trans (by decide) hR4) d_Program_init_48 (fun H hw => ?_)
  refine W.widen (k := 20) (n := 210) (by decide) (by decide) ?_
  refine lv_dup hx hb d_Program_init_51 rfl ?_
  refine zk_call (rest := [.ref (ad 99), .int 15, .ref (ad 83)]) (o := 99) G hw [] (zk_Statement_init_99 hJ had hA) (cwI 0 hts (zs_gC zn2_60) rfl rfl rfl (hts _ zn2_56) (hts _ zn2_61) (hts _ zn2_62) rfl (by decide +kernel) ⟨Nat.le_trans (by decide) hR1, Nat.le_trans (by decide) hR2⟩) rfl hl.1 (Nat.le_of_ble_eq_true rfl) d_Program_init_52 ⟨Nat.le_trans (by decide) hR3, Nat.le_trans (by decide) hR4⟩ (fun H locs hw => ?_)
  refine W.widen (k := 20) (n := 210) (by decide) (by decide) ?_
  refine zk_aast (t := 7) (n := 50) (ci := 6) (x := 99) (i := 15) G hw 83 (by decide) (by decide) rfl rfl (by decide) rfl (by decide) rfl rfl (by decide) d_Program_init_55 (fun H locs hw => ?_)
  refine lv_iinc (v := 16) hx hb d_Program_init_56 hl (k := 0) rfl (by decide) (by decide) rfl (fun ls hl => ?_)
  have hl : lv_has ls 2 [(1, .int 16), (0, .ref (ad 79))] := hl
  refine lv_goto hx hb d_Program_init_59 (tgt := 37) rfl ?_
  refine lv_iload_n hx hb d_Program_init_37 rfl (lv_at hl 0 rfl) ?_
  refine lv_bipush (v := 50) hx hb d_Program_init_38 (by decide) ?_
  refine lv_icmp_ge hx hb d_Program_init_40 (tgt := 62) rfl (fun hc => absurd hc (by decide)) (fun _ => ?_)
  refine lv_aload_n hx hb d_Program_init_43 rfl (lv_at hl 1 rfl) ?_
  refine zk_get (ci := 5) G hw 79 7 (by decide) zi_5 rfl rfl rfl (by decide) zn2_54 (fun _ h => h) (q := 83) rfl rfl (by decide) d_Program_init_44 ?_
  refine lv_iload_n hx hb d_Program_init_47 rfl (lv_at hl 0 rfl) ?_
  refine zk_new (ci := 6) G hw zi_6 t_zd6 t_zd6_ok rfl rfl rfl (by decide) (zh_6 ad _) zn2_53 zn2_55 zn2_56 (Nat.le_trans (by decide) hR3) (Nat.le_trans (by decide) hR4) d_Program_init_48 (fun H hw => ?_)
  refine W.widen (k := 21) (n := 219) (by decide) (by decide) ?_
  refine lv_dup hx hb d_Program_init_51 rfl ?_
  refine zk_call (rest := [.ref (ad 100), .int 16, .ref (ad 83)]) (o := 100) G hw [] (zk_Statement_init_100 hJ had hA) (cwI 0 hts (zs_gC zn2_60) rfl rfl rfl (hts _ zn2_56) (hts _ zn2_61) (hts _ zn2_62) rfl (by decide +kernel) ⟨Nat.le_trans (by decide) hR1, Nat.le_trans (by decide) hR2⟩) rfl hl.1 (Nat.le_of_ble_eq_true rfl) d_Program_init_52 ⟨Nat.le_trans (by decide) hR3, Nat.le_trans (by decide) hR4⟩ (fun H locs hw => ?_)
  refine W.widen (k := 21) (n := 219) (by decide) (by decide) ?_
  refine zk_aast (t := 7) (n := 50) (ci := 6) (x := 100) (i := 16) G hw 83 (by decide) (by decide) rfl rfl (by decide) rfl (by decide) rfl rfl (by decide) d_Program_init_55 (fun H locs hw => ?_)
  refine lv_iinc (v := 17) hx hb d_Program_init_56 hl (k := 0) rfl (by decide) (by decide) rfl (fun ls hl => ?_)
  have hl : lv_has ls 2 [(1, .int 17), (0, .ref (ad 79))] := hl
  refine lv_goto hx hb d_Program_init_59 (tgt := 37) rfl ?_
  refine lv_iload_n hx hb d_Program_init_37 rfl (lv_at hl 0 rfl) ?_
  refine lv_bipush (v := 50) hx hb d_Program_init_38 (by decide) ?_
  refine lv_icmp_ge hx hb d_Program_init_40 (tgt := 62) rfl (fun hc => absurd hc (by decide)) (fun _ => ?_)
  refine lv_aload_n hx hb d_Program_init_43 rfl (lv_at hl 1 rfl) ?_
  refine zk_get (ci := 5) G hw 79 7 (by decide) zi_5 rfl rfl rfl (by decide) zn2_54 (fun _ h => h) (q := 83) rfl rfl (by decide) d_Program_init_44 ?_
  refine lv_iload_n hx hb d_Program_init_47 rfl (lv_at hl 0 rfl) ?_
  refine zk_new (ci := 6) G hw zi_6 t_zd6 t_zd6_ok rfl rfl rfl (by decide) (zh_6 ad _) zn2_53 zn2_55 zn2_56 (Nat.le_trans (by decide) hR3) (Nat.le_trans (by decide) hR4) d_Program_init_48 (fun H hw => ?_)
  refine W.widen (k := 22) (n := 228) (by decide) (by decide) ?_
  refine lv_dup hx hb d_Program_init_51 rfl ?_
  refine zk_call (rest := [.ref (ad 101), .int 17, .ref (ad 83)]) (o := 101) G hw [] (zk_Statement_init_101 hJ had hA) (cwI 0 hts (zs_gC zn2_60) rfl rfl rfl (hts _ zn2_56) (hts _ zn2_61) (hts _ zn2_62) rfl (by decide +kernel) ⟨Nat.le_trans (by decide) hR1, Nat.le_trans (by decide) hR2⟩) rfl hl.1 (Nat.le_of_ble_eq_true rfl) d_Program_init_52 ⟨Nat.le_trans (by decide) hR3, Nat.le_trans (by decide) hR4⟩ (fun H locs hw => ?_)
  refine W.widen (k := 22) (n := 228) (by decide) (by decide) ?_
  refine zk_aast (t := 7) (n := 50) (ci := 6) (x := 101) (i := 17) G hw 83 (by decide) (by decide) rfl rfl (by decide) rfl (by decide) rfl rfl (by decide) d_Program_init_55 (fun H locs hw => ?_)
  refine lv_iinc (v := 18) hx hb d_Program_init_56 hl (k := 0) rfl (by decide) (by decide) rfl (fun ls hl => ?_)
  have hl : lv_has ls 2 [(1, .int 18), (0, .ref (ad 79))] := hl
  refine lv_goto hx hb d_Program_init_59 (tgt := 37) rfl ?_
  refine lv_iload_n hx hb d_Program_init_37 rfl (lv_at hl 0 rfl) ?_
  refine lv_bipush (v := 50) hx hb d_Program_init_38 (by decide) ?_
  refine lv_icmp_ge hx hb d_Program_init_40 (tgt := 62) rfl (fun hc => absurd hc (by decide)) (fun _ => ?_)
  refine lv_aload_n hx hb d_Program_init_43 rfl (lv_at hl 1 rfl) ?_
  refine zk_get (ci := 5) G hw 79 7 (by decide) zi_5 rfl rfl rfl (by decide) zn2_54 (fun _ h => h) (q := 83) rfl rfl (by decide) d_Program_init_44 ?_
  refine lv_iload_n hx hb d_Program_init_47 rfl (lv_at hl 0 rfl) ?_
  refine zk_new (ci := 6) G hw zi_6 t_zd6 t_zd6_ok rfl rfl rfl (by decide) (zh_6 ad _) zn2_53 zn2_55 zn2_56 (Nat.le_trans (by decide) hR3) (Nat.le_trans (by decide) hR4) d_Program_init_48 (fun H hw => ?_)
  refine W.widen (k := 23) (n := 237) (by decide) (by decide) ?_
  refine lv_dup hx hb d_Program_init_51 rfl ?_
  refine zk_call (rest := [.ref (ad 102), .int 18, .ref (ad 83)]) (o := 102) G hw [] (zk_Statement_init_102 hJ had hA) (cwI 0 hts (zs_gC zn2_60) rfl rfl rfl (hts _ zn2_56) (hts _ zn2_61) (hts _ zn2_62) rfl (by decide +kernel) ⟨Nat.le_trans (by decide) hR1, Nat.le_trans (by decide) hR2⟩) rfl hl.1 (Nat.le_of_ble_eq_true rfl) d_Program_init_52 ⟨Nat.le_trans (by decide) hR3, Nat.le_trans (by decide) hR4⟩ (fun H locs hw => ?_)
  refine W.widen (k := 23) (n := 237) (by decide) (by decide) ?_
  refine zk_aast (t := 7) (n := 50) (ci := 6) (x := 102) (i := 18) G hw 83 (by decide) (by decide) rfl rfl (by decide) rfl (by decide) rfl rfl (by decide) d_Program_init_55 (fun H locs hw => ?_)
  refine lv_iinc (v := 19) hx hb d_Program_init_56 hl (k := 0) rfl (by decide) (by decide) rfl (fun ls hl => ?_)
  have hl : lv_has ls 2 [(1, .int 19), (0, .ref (ad 79))] := hl
  refine lv_goto hx hb d_Program_init_59 (tgt := 37) rfl ?_
  refine lv_iload_n hx hb d_Program_init_37 rfl (lv_at hl 0 rfl) ?_
  refine lv_bipush (v := 50) hx hb d_Program_init_38 (by decide) ?_
  refine lv_icmp_ge hx hb d_Program_init_40 (tgt := 62) rfl (fun hc => absurd hc (by decide)) (fun _ => ?_)
  refine lv_aload_n hx hb d_Program_init_43 rfl (lv_at hl 1 rfl) ?_
  refine zk_get (ci := 5) G hw 79 7 (by decide) zi_5 rfl rfl rfl (by decide) zn2_54 (fun _ h => h) (q := 83) rfl rfl (by decide) d_Program_init_44 ?_
  refine lv_iload_n hx hb d_Program_init_47 rfl (lv_at hl 0 rfl) ?_
  refine zk_new (ci := 6) G hw zi_6 t_zd6 t_zd6_ok rfl rfl rfl (by decide) (zh_6 ad _) zn2_53 zn2_55 zn2_56 (Nat.le_trans (by decide) hR3) (Nat.le_trans (by decide) hR4) d_Program_init_48 (fun H hw => ?_)
  refine W.widen (k := 24) (n := 246) (by decide) (by decide) ?_
  refine lv_dup hx hb d_Program_init_51 rfl ?_
  refine zk_call (rest := [.ref (ad 103), .int 19, .ref (ad 83)]) (o := 103) G hw [] (zk_Statement_init_103 hJ had hA) (cwI 0 hts (zs_gC zn2_60) rfl rfl rfl (hts _ zn2_56) (hts _ zn2_61) (hts _ zn2_62) rfl (by decide +kernel) ⟨Nat.le_trans (by decide) hR1, Nat.le_trans (by decide) hR2⟩) rfl hl.1 (Nat.le_of_ble_eq_true rfl) d_Program_init_52 ⟨Nat.le_trans (by decide) hR3, Nat.le_trans (by decide) hR4⟩ (fun H locs hw => ?_)
  refine W.widen (k := 24) (n := 246) (by decide) (by decide) ?_
  refine zk_aast (t := 7) (n := 50) (ci := 6) (x := 103) (i := 19) G hw 83 (by decide) (by decide) rfl rfl (by decide) rfl (by decide) rfl rfl (by decide) d_Program_init_55 (fun H locs hw => ?_)
  refine lv_iinc (v := 20) hx hb d_Program_init_56 hl (k := 0) rfl (by decide) (by decide) rfl (fun ls hl => ?_)
  have hl : lv_has ls 2 [(1, .int 20), (0, .ref (ad 79))] := hl
  refine lv_goto hx hb d_Program_init_59 (tgt := 37) rfl ?_
  refine lv_iload_n hx hb d_Program_init_37 rfl (lv_at hl 0 rfl) ?_
  refine lv_bipush (v := 50) hx hb d_Program_init_38 (by decide) ?_
  refine lv_icmp_ge hx hb d_Program_init_40 (tgt := 62) rfl (fun hc => absurd hc (by decide)) (fun _ => ?_)
  refine lv_aload_n hx hb d_Program_init_43 rfl (lv_at hl 1 rfl) ?_
  refine zk_get (ci := 5) G hw 79 7 (by decide) zi_5 rfl rfl rfl (by decide) zn2_54 (fun _ h => h) (q := 83) rfl rfl (by decide) d_Program_init_44 ?_
  refine lv_iload_n hx hb d_Program_init_47 rfl (lv_at hl 0 rfl) ?_
  refine zk_new (ci := 6) G hw zi_6 t_zd6 t_zd6_ok rfl rfl rfl (by decide) (zh_6 ad _) zn2_53 zn2_55 zn2_56 (Nat.le_trans (by decide) hR3) (Nat.le_trans (by decide) hR4) d_Program_init_48 (fun H hw => ?_)
  refine W.widen (k := 25) (n := 255) (by decide) (by decide) ?_
  refine lv_dup hx hb d_Program_init_51 rfl ?_
  refine zk_call (rest := [.ref (ad 104), .int 20, .ref (ad 83)]) (o := 104) G hw [] (zk_Statement_init_104 hJ had hA) (cwI 0 hts (zs_gC zn2_60) rfl rfl rfl (hts _ zn2_56) (hts _ zn2_61) (hts _ zn2_62) rfl (by decide +kernel) ⟨Nat.le_trans (by decide) hR1, Nat.le_trans (by decide) hR2⟩) rfl hl.1 (Nat.le_of_ble_eq_true rfl) d_Program_init_52 ⟨Nat.le_trans (by decide) hR3, Nat.le_trans (by decide) hR4⟩ (fun H locs hw => ?_)
  refine W.widen (k := 25) (n := 255) (by decide) (by decide) ?_
  refine zk_aast (t := 7) (n := 50) (ci := 6) (x := 104) (i := 20) G hw 83 (by decide) (by decide) rfl rfl (by decide) rfl (by decide) rfl rfl (by decide) d_Program_init_55 (fun H locs hw => ?_)
  refine lv_iinc (v := 21) hx hb d_Program_init_56 hl (k := 0) rfl (by decide) (by decide) rfl (fun ls hl => ?_)
  have hl : lv_has ls 2 [(1, .int 21), (0, .ref (ad 79))] := hl
  refine lv_goto hx hb d_Program_init_59 (tgt := 37) rfl ?_
  refine lv_iload_n hx hb d_Program_init_37 rfl (lv_at hl 0 rfl) ?_
  refine lv_bipush (v := 50) hx hb d_Program_init_38 (by decide) ?_
  refine lv_icmp_ge hx hb d_Program_init_40 (tgt := 62) rfl (fun hc => absurd hc (by decide)) (fun _ => ?_)
  refine lv_aload_n hx hb d_Program_init_43 rfl (lv_at hl 1 rfl) ?_
  refine zk_get (ci := 5) G hw 79 7 (by decide) zi_5 rfl rfl rfl (by decide) zn2_54 (fun _ h => h) (q := 83) rfl rfl (by decide) d_Program_init_44 ?_
  refine lv_iload_n hx hb d_Program_init_47 rfl (lv_at hl 0 rfl) ?_
  refine zk_new (ci := 6) G hw zi_6 t_zd6 t_zd6_ok rfl rfl rfl (by decide) (zh_6 ad _) zn2_53 zn2_55 zn2_56 (Nat.le_trans (by decide) hR3) (Nat.le_trans (by decide) hR4) d_Program_init_48 (fun H hw => ?_)
  refine W.widen (k := 26) (n := 264) (by decide) (by decide) ?_
  refine lv_dup hx hb d_Program_init_51 rfl ?_
  refine zk_call (rest := [.ref (ad 105), .int 21, .ref (ad 83)]) (o := 105) G hw [] (zk_Statement_init_105 hJ had hA) (cwI 0 hts (zs_gC zn2_60) rfl rfl rfl (hts _ zn2_56) (hts _ zn2_61) (hts _ zn2_62) rfl (by decide +kernel) ⟨Nat.le_trans (by decide) hR1, Nat.le_trans (by decide) hR2⟩) rfl hl.1 (Nat.le_of_ble_eq_true rfl) d_Program_init_52 ⟨Nat.le_trans (by decide) hR3, Nat.le_trans (by decide) hR4⟩ (fun H locs hw => ?_)
  refine W.widen (k := 26) (n := 264) (by decide) (by decide) ?_
  refine zk_aast (t := 7) (n := 50) (ci := 6) (x := 105) (i := 21) G hw 83 (by decide) (by decide) rfl rfl (by decide) rfl (by decide) rfl rfl (by decide) d_Program_init_55 (fun H locs hw => ?_)
  refine lv_iinc (v := 22) hx hb d_Program_init_56 hl (k := 0) rfl (by decide) (by decide) rfl (fun ls hl => ?_)
  have hl : lv_has ls 2 [(1, .int 22), (0, .ref (ad 79))] := hl
  refine lv_goto hx hb d_Program_init_59 (tgt := 37) rfl ?_
  refine lv_iload_n hx hb d_Program_init_37 rfl (lv_at hl 0 rfl) ?_
  refine lv_bipush (v := 50) hx hb d_Program_init_38 (by decide) ?_
  refine lv_icmp_ge hx hb d_Program_init_40 (tgt := 62) rfl (fun hc => absurd hc (by decide)) (fun _ => ?_)
  refine lv_aload_n hx hb d_Program_init_43 rfl (lv_at hl 1 rfl) ?_
  refine zk_get (ci := 5) G hw 79 7 (by decide) zi_5 rfl rfl rfl (by decide) zn2_54 (fun _ h => h) (q := 83) rfl rfl (by decide) d_Program_init_44 ?_
  refine lv_iload_n hx hb d_Program_init_47 rfl (lv_at hl 0 rfl) ?_
  refine zk_new (ci := 6) G hw zi_6 t_zd6 t_zd6_ok rfl rfl rfl (by decide) (zh_6 ad _) zn2_53 zn2_55 zn2_56 (Nat.le_trans (by decide) hR3) (Nat.le_trans (by decide) hR4) d_Program_init_48 (fun H hw => ?_)
  refine W.widen (k := 27) (n := 273) (by decide) (by decide) ?_
  refine lv_dup hx hb d_Program_init_51 rfl ?_
  refine zk_call (rest := [.ref (ad 106), .int 22, .ref (ad 83)]) (o := 106) G hw [] (zk_Statement_init_106 hJ had hA) (cwI 0 hts (zs_gC zn2_60) rfl rfl rfl (hts _ zn2_56) (hts _ zn2_61) (hts _ zn2_62) rfl (by decide +kernel) ⟨Nat.le_trans (by decide) hR1, Nat.le_trans (by decide) hR2⟩) rfl hl.1 (Nat.le_of_ble_eq_true rfl) d_Program_init_52 ⟨Nat.le_trans (by decide) hR3, Nat.le_trans (by decide) hR4⟩ (fun H locs hw => ?_)
  refine W.widen (k := 27) (n := 273) (by decide) (by decide) ?_
  refine zk_aast (t := 7) (n := 50) (ci := 6) (x := 106) (i := 22) G hw 83 (by decide) (by decide) rfl rfl (by decide) rfl (by decide) rfl rfl (by decide) d_Program_init_55 (fun H locs hw => ?_)
  refine lv_iinc (v := 23) hx hb d_Program_init_56 hl (k := 0) rfl (by decide) (by decide) rfl (fun ls hl => ?_)
  have hl : lv_has ls 2 [(1, .int 23), (0, .ref (ad 79))] := hl
  refine lv_goto hx hb d_Program_init_59 (tgt := 37) rfl ?_
  refine lv_iload_n hx hb d_Program_init_37 rfl (lv_at hl 0 rfl) ?_
  refine lv_bipush (v := 50) hx hb d_Program_init_38 (by decide) ?_
  refine lv_icmp_ge hx hb d_Program_init_40 (tgt := 62) rfl (fun hc => absurd hc (by decide)) (fun _ => ?_)
  refine lv_aload_n hx hb d_Program_init_43 rfl (lv_at hl 1 rfl) ?_
  refine zk_get (ci := 5) G hw 79 7 (by decide) zi_5 rfl rfl rfl (by decide) zn2_54 (fun _ h => h) (q := 83) rfl rfl (by decide) d_Program_init_44 ?_
  refine lv_iload_n hx hb d_Program_init_47 rfl (lv_at hl 0 rfl) ?_
  refine zk_new (ci := 6) G hw zi_6 t_zd6 t_zd6_ok rfl rfl rfl (by decide) (zh_6 ad _) zn2_53 zn2_55 zn2_56 (Nat.le_trans (by decide) hR3) (Nat.le_trans (by decide) hR4) d_Program_init_48 (fun H hw => ?_)
  refine W.widen (k := 28) (n := 282) (by decide) (by decide) ?_
  refine lv_dup hx hb d_Program_init_51 rfl ?_
  refine zk_call (rest := [.ref (ad 107), .int 23, .ref (ad 83)]) (o := 107) G hw [] (zk_Statement_init_107 hJ had hA) (cwI 0 hts (zs_gC zn2_60) rfl rfl rfl (hts _ zn2_56) (hts _ zn2_61) (hts _ zn2_62) rfl (by decide +kernel) ⟨Nat.le_trans (by decide) hR1, Nat.le_trans (by decide) hR2⟩) rfl hl.1 (Nat.le_of_ble_eq_true rfl) d_Program_init_52 ⟨Nat.le_trans (by decide) hR3, Nat.le_trans (by decide) hR4⟩ (fun H locs hw => ?_)
  refine W.widen (k := 28) (n := 282) (by decide) (by decide) ?_
  refine zk_aast (t := 7) (n := 50) (ci := 6) (x := 107) (i := 23) G hw 83 (by decide) (by decide) rfl rfl (by decide) rfl (by decide) rfl rfl (by decide) d_Program_init_55 (fun H locs hw => ?_)
  refine lv_iinc (v := 24) hx hb d_Program_init_56 hl (k := 0) rfl (by decide) (by decide) rfl (fun ls hl => ?_)
  have hl : lv_has ls 2 [(1, .int 24), (0, .ref (ad 79))] := hl
  refine lv_goto hx hb d_Program_init_59 (tgt := 37) rfl ?_
  refine lv_iload_n hx hb d_Program_init_37 rfl (lv_at hl 0 rfl) ?_
  refine lv_bipush (v := 50) hx hb d_Program_init_38 (by decide) ?_
  refine lv_icmp_ge hx hb d_Program_init_40 (tgt := 62) rfl (fun hc => absurd hc (by decide)) (fun _ => ?_)
  refine lv_aload_n hx hb d_Program_init_43 rfl (lv_at hl 1 rfl) ?_
  refine zk_get (ci := 5) G hw 79 7 (by decide) zi_5 rfl rfl rfl (by decide) zn2_54 (fun _ h => h) (q := 83) rfl rfl (by decide) d_Program_init_44 ?_
  refine lv_iload_n hx hb d_Program_init_47 rfl (lv_at hl 0 rfl) ?_
  refine zk_new (ci := 6) G hw zi_6 t_zd6 t_zd6_ok rfl rfl rfl (by decide) (zh_6 ad _) zn2_53 zn2_55 zn2_56 (Nat.le_trans (by decide) hR3) (Nat.le_trans (by decide) hR4) d_Program_init_48 (fun H hw => ?_)
  refine W.widen (k := 29) (n := 291) (by decide) (by decide) ?_
  refine lv_dup hx hb d_Program_init_51 rfl ?_
  refine zk_call (rest := [.ref (ad 108), .int 24, .ref (ad 83)]) (o := 108) G hw [] (zk_Statement_init_108 hJ had hA) (cwI 0 hts (zs_gC zn2_60) rfl rfl rfl (hts _ zn2_56) (hts _ zn2_61) (hts _ zn2_62) rfl (by decide +kernel) ⟨Nat.le_trans (by decide) hR1, Nat.le_trans (by decide) hR2⟩) rfl hl.1 (Nat.le_of_ble_eq_true rfl) d_Program_init_52 ⟨Nat.le_trans (by decide) hR3, Nat.le_trans (by decide) hR4⟩ (fun H locs hw => ?_)
  refine W.widen (k := 29) (n := 291) (by decide) (by decide) ?_
  refine zk_aast (t := 7) (n := 50) (ci := 6) (x := 108) (i := 24) G hw 83 (by decide) (by decide) rfl rfl (by decide) rfl (by decide) rfl rfl (by decide) d_Program_init_55 (fun H locs hw => ?_)
  refine lv_iinc (v := 25) hx hb d_Program_init_56 hl (k := 0) rfl (by decide) (by decide) rfl (fun ls hl => ?_)
  have hl : lv_has ls 2 [(1, .int 25), (0, .ref (ad 79))] := hl
  refine lv_goto hx hb d_Program_init_59 (tgt := 37) rfl ?_
  refine lv_iload_n hx hb d_Program_init_37 rfl (lv_at hl 0 rfl) ?_
  refine lv_bipush (v := 50) hx hb d_Program_init_38 (by decide) ?_
  refine lv_icmp_ge hx hb d_Program_init_40 (tgt := 62) rfl (fun hc => absurd hc (by decide)) (fun _ => ?_)
  refine lv_aload_n hx hb d_Program_init_43 rfl (lv_at hl 1 rfl) ?_
  refine zk_get (ci := 5) G hw 79 7 (by decide) zi_5 rfl rfl rfl (by decide) zn2_54 (fun _ h => h) (q := 83) rfl rfl (by decide) d_Program_init_44 ?_
  refine lv_iload_n hx hb d_Program_init_47 rfl (lv_at hl 0 rfl) ?_
  refine zk_new (ci := 6) G hw zi_6 t_zd6 t_zd6_ok rfl rfl rfl (by decide) (zh_6 ad _) zn2_53 zn2_55 zn2_56 (Nat.le_trans (by decide) hR3) (Nat.le_trans (by decide) hR4) d_Program_init_48 (fun H hw => ?_)
  refine W.widen (k := 30) (n := 300) (by decide) (by decide) ?_
  refine lv_dup hx hb d_Program_init_51 rfl ?_
  refine zk_call (rest := [.ref (ad 109), .int 25, .ref (ad 83)]) (o := 109) G hw [] (zk_Statement_init_109 hJ had hA) (cwI 0 hts (zs_gC zn2_60) rfl rfl rfl (hts _ zn2_56) (hts _ zn2_61) (hts _ zn2_62) rfl (by decide +kernel) ⟨Nat.le_trans (by decide) hR1, Nat.le_trans (by decide) hR2⟩) rfl hl.1 (Nat.le_of_ble_eq_true rfl) d_Program_init_52 ⟨Nat.le_trans (by decide) hR3, Nat.le_trans (by decide) hR4⟩ (fun H locs hw => ?_)
  refine W.widen (k := 30) (n := 300) (by decide) (by decide) ?_
  refine zk_aast (t := 7) (n := 50) (ci := 6) (x := 109) (i := 25) G hw 83 (by decide) (by decide) rfl rfl (by decide) rfl (by decide) rfl rfl (by decide) d_Program_init_55 (fun H locs hw => ?_)
  refine lv_iinc (v := 26) hx hb d_Program_init_56 hl (k := 0) rfl (by decide) (by decide) rfl (fun ls hl => ?_)
  have hl : lv_has ls 2 [(1, .int 26), (0, .ref (ad 79))] := hl
  refine lv_goto hx hb d_Program_init_59 (tgt := 37) rfl ?_
  refine lv_iload_n hx hb d_Program_init_37 rfl (lv_at hl 0 rfl) ?_
  refine lv_bipush (v := 50) hx hb d_Program_init_38 (by decide) ?_
  refine lv_icmp_ge hx hb d_Program_init_40 (tgt := 62) rfl (fun hc => absurd hc (by decide)) (fun _ => ?_)
  refine lv_aload_n hx hb d_Program_init_43 rfl (lv_at hl 1 rfl) ?_
  refine zk_get (ci := 5) G hw 79 7 (by decide) zi_5 rfl rfl rfl (by decide) zn2_54 (fun _ h => h) (q := 83) rfl rfl (by decide) d_Program_init_44 ?_
  refine lv_iload_n hx hb d_Program_init_47 rfl (lv_at hl 0 rfl) ?_
  refine zk_new (ci := 6) G hw zi_6 t_zd6 t_zd6_ok rfl rfl rfl (by decide) (zh_6 ad _) zn2_53 zn2_55 zn2_56 (Nat.le_trans (by decide) hR3) (Nat.le_trans (by decide) hR4) d_Program_init_48 (fun H hw => ?_)
  refine W.widen (k := 31) (n := 309) (by decide) (by decide) ?_
  refine lv_dup hx hb d_Program_init_51 rfl ?_
  refine zk_call (rest := [.ref (ad 110), .int 26, .ref (ad 83)]) (o := 110) G hw [] (zk_Statement_init_110 hJ had hA) (cwI 0 hts (zs_gC zn2_60) rfl rfl rfl (hts _ zn2_56) (hts _ zn2_61) (hts _ zn2_62) rfl (by decide +kernel) ⟨Nat.le_trans (by decide) hR1, Nat.le_trans (by decide) hR2⟩) rfl hl.1 (Nat.le_of_ble_eq_true rfl) d_Program_init_52 ⟨Nat.le_trans (by decide) hR3, Nat.le_trans (by decide) hR4⟩ (fun H locs hw => ?_)
  refine W.widen (k := 31) (n := 309) (by decide) (by decide) ?_
  refine zk_aast (t := 7) (n := 50) (ci := 6) (x := 110) (i := 26) G hw 83 (by decide) (by decide) rfl rfl (by decide) rfl (by decide) rfl rfl (by decide) d_Program_init_55 (fun H locs hw => ?_)
  refine lv_iinc (v := 27) hx hb d_Program_init_56 hl (k := 0) rfl (by decide) (by decide) rfl (fun ls hl => ?_)
  have hl : lv_has ls 2 [(1, .int 27), (0, .ref (ad 79))] := hl
  refine lv_goto hx hb d_Program_init_59 (tgt := 37) rfl ?_
  refine lv_iload_n hx hb d_Program_init_37 rfl (lv_at hl 0 rfl) ?_
  refine lv_bipush (v := 50) hx hb d_Program_init_38 (by decide) ?_
  refine lv_icmp_ge hx hb d_Program_init_40 (tgt := 62) rfl (fun hc => absurd hc (by decide)) (fun _ => ?_)
  refine lv_aload_n hx hb d_Program_init_43 rfl (lv_at hl 1 rfl) ?_
  refine zk_get (ci := 5) G hw 79 7 (by decide) zi_5 rfl rfl rfl (by decide) zn2_54 (fun _ h => h) (q := 83) rfl rfl (by decide) d_Program_init_44 ?_
  refine lv_iload_n hx hb d_Program_init_47 rfl (lv_at hl 0 rfl) ?_
  refine zk_new (ci := 6) G hw zi_6 t_zd6 t_zd6_ok rfl rfl rfl (by decide) (zh_6 ad _) zn2_53 zn2_55 zn2_56 (Nat.le_trans (by decide) hR3) (Nat.le_trans (by decide) hR4) d_Program_init_48 (fun H hw => ?_)
  refine W.widen (k := 32) (n := 318) (by decide) (by decide) ?_
  refine lv_dup hx hb d_Program_init_51 rfl ?_
  refine zk_call (rest := [.ref (ad 111), .int 27, .ref (ad 83)]) (o := 111) G hw [] (zk_Statement_init_111 hJ had hA) (cwI 0 hts (zs_gC zn2_60) rfl rfl rfl (hts _ zn2_56) (hts _ zn2_61) (hts _ zn2_62) rfl (by decide +kernel) ⟨Nat.le_trans (by decide) hR1, Nat.le_trans (by decide) hR2⟩) rfl hl.1 (Nat.le_of_ble_eq_true rfl) d_Program_init_52 ⟨Nat.le_trans (by decide) hR3, Nat.le_trans (by decide) hR4⟩ (fun H locs hw => ?_)
  refine W.widen (k := 32) (n := 318) (by decide) (by decide) ?_
  refine zk_aast (t := 7) (n := 50) (ci := 6) (x := 111) (i := 27) G hw 83 (by decide) (by decide) rfl rfl (by decide) rfl (by decide) rfl rfl (by decide) d_Program_init_55 (fun H locs hw => ?_)
  refine lv_iinc (v := 28) hx hb d_Program_init_56 hl (k := 0) rfl (by decide) (by decide) rfl (fun ls hl => ?_)
  have hl : lv_has ls 2 [(1, .int 28), (0, .ref (ad 79))] := hl
  refine lv_goto hx hb d_Program_init_59 (tgt := 37) rfl ?_
  refine lv_iload_n hx hb d_Program_init_37 rfl (lv_at hl 0 rfl) ?_
  refine lv_bipush (v := 50) hx hb d_Program_init_38 (by decide) ?_
  refine lv_icmp_ge hx hb d_Program_init_40 (tgt := 62) rfl (fun hc => absurd hc (by decide)) (fun _ => ?_)
  refine lv_aload_n hx hb d_Program_init_43 rfl (lv_at hl 1 rfl) ?_
  refine zk_get (ci := 5) G hw 79 7 (by decide) zi_5 rfl rfl rfl (by decide) zn2_54 (fun _ h => h) (q := 83) rfl rfl (by decide) d_Program_init_44 ?_
  refine lv_iload_n hx hb d_Program_init_47 rfl (lv_at hl 0 rfl) ?_
  refine zk_new (ci := 6) G hw zi_6 t_zd6 t_zd6_ok rfl rfl rfl (by decide) (zh_6 ad _) zn2_53 zn2_55 zn2_56 (Nat.le_trans (by decide) hR3) (Nat.le_trans (by decide) hR4) d_Program_init_48 (fun H hw => ?_)
  refine W.widen (k := 33) (n := 327) (by decide) (by decide) ?_
  refine lv_dup hx hb d_Program_init_51 rfl ?_
  refine zk_call (rest := [.ref (ad 112), .int 28, .ref (ad 83)]) (o := 112) G hw [] (zk_Statement_init_112 hJ had hA) (cwI 0 hts (zs_gC zn2_60) rfl rfl rfl (hts _ zn2_56) (hts _ zn2_61) (hts _ zn2_62) rfl (by decide +kernel) ⟨Nat.le_trans (by decide) hR1, Nat.le_trans (by decide) hR2⟩) rfl hl.1 (Nat.le_of_ble_eq_true rfl) d_Program_init_52 ⟨Nat.le_trans (by decide) hR3, Nat.le_trans (by decide) hR4⟩ (fun H locs hw => ?_)
  refine W.widen (k := 33) (n := 327) (by decide) (by decide) ?_
  refine zk_aast (t := 7) (n := 50) (ci := 6) (x := 112) (i := 28) G hw 83 (by decide) (by decide) rfl rfl (by decide) rfl (by decide) rfl rfl (by decide) d_Program_init_55 (fun H locs hw => ?_)
  refine lv_iinc (v := 29) hx hb d_Program_init_56 hl (k := 0) rfl (by decide) (by decide) rfl (fun ls hl => ?_)
  have hl : lv_has ls 2 [(1, .int 29), (0, .ref (ad 79))] := hl
  refine lv_goto hx hb d_Program_init_59 (tgt := 37) rfl ?_
  refine lv_iload_n hx hb d_Program_init_37 rfl (lv_at hl 0 rfl) ?_
  refine lv_bipush (v := 50) hx hb d_Program_init_38 (by decide) ?_
  refine lv_icmp_ge hx hb d_Program_init_40 (tgt := 62) rfl (fun hc => absurd hc (by decide)) (fun _ => ?_)
  refine lv_aload_n hx hb d_Program_init_43 rfl (lv_at hl 1 rfl) ?_
  refine zk_get (ci := 5) G hw 79 7 (by decide) zi_5 rfl rfl rfl (by decide) zn2_54 (fun _ h => h) (q := 83) rfl rfl (by decide) d_Program_init_44 ?_
  refine lv_iload_n hx hb d_Program_init_47 rfl (lv_at hl 0 rfl) ?_
  refine zk_new (ci := 6) G hw zi_6 t_zd6 t_zd6_ok rfl rfl rfl (by decide) (zh_6 ad _) zn2_53 zn2_55 zn2_56 (Nat.le_trans (by decide) hR3) (Nat.le_trans (by decide) hR4) d_Program_init_48 (fun H hw => ?_)
  refine W.widen (k := 34) (n := 336) (by decide) (by decide) ?_
  refine lv_dup hx hb d_Program_init_51 rfl ?_
  refine zk_call (rest := [.ref (ad 113), .int 29, .ref (ad 83)]) (o := 113) G hw [] (zk_Statement_init_113 hJ had hA) (cwI 0 hts (zs_gC zn2_60) rfl rfl rfl (hts _ zn2_56) (hts _ zn2_61) (hts _ zn2_62) rfl (by decide +kernel) ⟨Nat.le_trans (by decide) hR1, Nat.le_trans (by decide) hR2⟩) rfl hl.1 (Nat.le_of_ble_eq_true rfl) d_Program_init_52 ⟨Nat.le_trans (by decide) hR3, Nat.le_trans (by decide) hR4⟩ (fun H locs hw => ?_)
  refine W.widen (k := 34) (n := 336) (by decide) (by decide) ?_
  refine zk_aast (t := 7) (n := 50) (ci := 6) (x := 113) (i := 29) G hw 83 (by decide) (by decide) rfl rfl (by decide) rfl (by decide) rfl rfl (by decide) d_Program_init_55 (fun H locs hw => ?_)
  refine lv_iinc (v := 30) hx hb d_Program_init_56 hl (k := 0) rfl (by decide) (by decide) rfl (fun ls hl => ?_)
  have hl : lv_has ls 2 [(1, .int 30), (0, .ref (ad 79))] := hl
  refine lv_goto hx hb d_Program_init_59 (tgt := 37) rfl ?_
  refine lv_iload_n hx hb d_Program_init_37 rfl (lv_at hl 0 rfl) ?_
  refine lv_bipush (v := 50) hx hb d_Program_init_38 (by decide) ?_
  refine lv_icmp_ge hx hb d_Program_init_40 (tgt := 62) rfl (fun hc => absurd hc (by decide)) (fun _ => ?_)
  refine lv_aload_n hx hb d_Program_init_43 rfl (lv_at hl 1 rfl) ?_
  refine zk_get (ci := 5) G hw 79 7 (by decide) zi_5 rfl rfl rfl (by decide) zn2_54 (fun _ h => h) (q := 83) rfl rfl (by decide) d_Program_init_44 ?_
  refine lv_iload_n hx hb d_Program_init_47 rfl (lv_at hl 0 rfl) ?_
  refine zk_new (ci := 6) G hw zi_6 t_zd6 t_zd6_ok rfl rfl rfl (by decide) (zh_6 ad _) zn2_53 zn2_55 zn2_56 (Nat.le_trans (by decide) hR3) (Nat.le_trans (by decide) hR4) d_Program_init_48 (fun H hw => ?_)
  refine W.widen (k := 35) (n := 345) (by decide) (by decide) ?_
  refine lv_dup hx hb d_Program_init_51 rfl ?_
  refine zk_call (rest := [.ref (ad 114), .int 30, .ref (ad 83)]) (o := 114) G hw [] (zk_Statement_init_114 hJ had hA) (cwI 0 hts (zs_gC zn2_60) rfl rfl rfl (hts _ zn2_56) (hts _ zn2_61) (hts _ zn2_62) rfl (by decide +kernel) ⟨Nat.le_trans (by decide) hR1, Nat.le_trans (by decide) hR2⟩) rfl hl.1 (Nat.le_of_ble_eq_true rfl) d_Program_init_52 ⟨Nat.le_trans (by decide) hR3, Nat.le_trans (by decide) hR4⟩ (fun H locs hw => ?_)
  refine W.widen (k := 35) (n := 345) (by decide) (by decide) ?_
  refine zk_aast (t := 7) (n := 50) (ci := 6) (x := 114) (i := 30) G hw 83 (by decide) (by decide) rfl rfl (by decide) rfl (by decide) rfl rfl (by decide) d_Program_init_55 (fun H locs hw => ?_)
  refine lv_iinc (v := 31) hx hb d_Program_init_56 hl (k := 0) rfl (by decide) (by decide) rfl (fun ls hl => ?_)
  have hl : lv_has ls 2 [(1, .int 31), (0, .ref (ad 79))] := hl
  refine lv_goto hx hb d_Program_init_59 (tgt := 37) rfl ?_
  refine lv_iload_n hx hb d_Program_init_37 rfl (lv_at hl 0 rfl) ?_
  refine lv_bipush (v := 50) hx hb d_Program_init_38 (by decide) ?_
  refine lv_icmp_ge hx hb d_Program_init_40 (tgt := 62) rfl (fun hc => absurd hc (by decide)) (fun _ => ?_)
  refine lv_aload_n hx hb d_Program_init_43 rfl (lv_at hl 1 rfl) ?_
  refine zk_get (ci := 5) G hw 79 7 (by decide) zi_5 rfl rfl rfl (by decide) zn2_54 (fun _ h => h) (q := 83) rfl rfl (by decide) d_Program_init_44 ?_
  refine lv_iload_n hx hb d_Program_init_47 rfl (lv_at hl 0 rfl) ?_
  refine zk_new (ci := 6) G hw zi_6 t_zd6 t_zd6_ok rfl rfl rfl (by decide) (zh_6 ad _) zn2_53 zn2_55 zn2_56 (Nat.le_trans (by decide) hR3) (Nat.le_trans (by decide) hR4) d_Program_init_48 (fun H hw => ?_)
  refine W.widen (k := 36) (n := 354) (by decide) (by decide) ?_
  refine lv_dup hx hb d_Program_init_51 rfl ?_
  refine zk_call (rest := [.ref (ad 115), .int 31, .ref (ad 83)]) (o := 115) G hw [] (zk_Statement_init_115 hJ had hA) (cwI 0 hts (zs_gC zn2_60) rfl rfl rfl (hts _ zn2_56) (hts _ zn2_61) (hts _ zn2_62) rfl (by decide +kernel) ⟨Nat.le_trans (by decide) hR1, Nat.le_trans (by decide) hR2⟩) rfl hl.1 (Nat.le_of_ble_eq_true rfl) d_Program_init_52 ⟨Nat.le_trans (by decide) hR3, Nat.le_trans (by decide) hR4⟩ (fun H locs hw => ?_)
  refine W.widen (k := 36) (n := 354) (by decide) (by decide) ?_
  refine zk_aast (t := 7) (n := 50) (ci := 6) (x := 115) (i := 31) G hw 83 (by decide) (by decide) rfl rfl (by decide) rfl (by decide) rfl rfl (by decide) d_Program_init_55 (fun H locs hw => ?_)
  refine lv_iinc (v := 32) hx hb d_Program_init_56 hl (k := 0) rfl (by decide) (by decide) rfl (fun ls hl => ?_)
  have hl : lv_has ls 2 [(1, .int 32), (0, .ref (ad 79))] := hl
  refine lv_goto hx hb d_Program_init_59 (tgt := 37) rfl ?_
  refine lv_iload_n hx hb d_Program_init_37 rfl (lv_at hl 0 rfl) ?_
  refine lv_bipush (v := 50) hx hb d_Program_init_38 (by decide) ?_
  refine lv_icmp_ge hx hb d_Program_init_40 (tgt := 62) rfl (fun hc => absurd hc (by decide)) (fun _ => ?_)
  refine lv_aload_n hx hb d_Program_init_43 rfl (lv_at hl 1 rfl) ?_
  refine zk_get (ci := 5) G hw 79 7 (by decide) zi_5 rfl rfl rfl (by decide) zn2_54 (fun _ h => h) (q := 83) rfl rfl (by decide) d_Program_init_44 ?_
  refine lv_iload_n hx hb d_Program_init_47 rfl (lv_at hl 0 rfl) ?_
  refine zk_new (ci := 6) G hw zi_6 t_zd6 t_zd6_ok rfl rfl rfl (by decide) (zh_6 ad _) zn2_53 zn2_55 zn2_56 (Nat.le_trans (by decide) hR3) (Nat.le_trans (by decide) hR4) d_Program_init_48 (fun H hw => ?_)
  refine W.widen (k := 37) (n := 363) (by decide) (by decide) ?_
  refine lv_dup hx hb d_Program_init_51 rfl ?_
  refine zk_call (rest := [.ref (ad 116), .int 32, .ref (ad 83)]) (o := 116) G hw [] (zk_Statement_init_116 hJ had hA) (cwI 0 hts (zs_gC zn2_60) rfl rfl rfl (hts _ zn2_56) (hts _ zn2_61) (hts _ zn2_62) rfl (by decide +kernel) ⟨Nat.le_trans (by decide) hR1, Nat.le_trans (by decide) hR2⟩) rfl hl.1 (Nat.le_of_ble_eq_true rfl) d_Program_init_52 ⟨Nat.le_trans (by decide) hR3, Nat.le_trans (by decide) hR4⟩ (fun H locs hw => ?_)
  refine W.widen (k := 37) (n := 363) (by decide) (by decide) ?_
  refine zk_aast (t := 7) (n := 50) (ci := 6) (x := 116) (i := 32) G hw 83 (by decide) (by decide) rfl rfl (by decide) rfl (by decide) rfl rfl (by decide) d_Program_init_55 (fun H locs hw => ?_)
  refine lv_iinc (v := 33) hx hb d_Program_init_56 hl (k := 0) rfl (by decide) (by decide) rfl (fun ls hl => ?_)
  have hl : lv_has ls 2 [(1, .int 33), (0, .ref (ad 79))] := hl
  refine lv_goto hx hb d_Program_init_59 (tgt := 37) rfl ?_
  refine lv_iload_n hx hb d_Program_init_37 rfl (lv_at hl 0 rfl) ?_
  refine lv_bipush (v := 50) hx hb d_Program_init_38 (by decide) ?_
  refine lv_icmp_ge hx hb d_Program_init_40 (tgt := 62) rfl (fun hc => absurd hc (by decide)) (fun _ => ?_)
  refine lv_aload_n hx hb d_Program_init_43 rfl (lv_at hl 1 rfl) ?_
  refine zk_get (ci := 5) G hw 79 7 (by decide) zi_5 rfl rfl rfl (by decide) zn2_54 (fun _ h => h) (q := 83) rfl rfl (by decide) d_Program_init_44 ?_
  refine lv_iload_n hx hb d_Program_init_47 rfl (lv_at hl 0 rfl) ?_
  refine zk_new (ci := 6) G hw zi_6 t_zd6 t_zd6_ok rfl rfl rfl (by decide) (zh_6 ad _) zn2_53 zn2_55 zn2_56 (Nat.le_trans (by decide) hR3) (Nat.le_trans (by decide) hR4) d_Program_init_48 (fun H hw => ?_)
  refine W.widen (k := 38) (n := 372) (by decide) (by decide) ?_
  refine lv_dup hx hb d_Program_init_51 rfl ?_
  refine zk_call (rest := [.ref (ad 117), .int 33, .ref (ad 83)]) (o := 117) G hw [] (zk_Statement_init_117 hJ had hA) (cwI 0 hts (zs_gC zn2_60) rfl rfl rfl (hts _ zn2_56) (hts _ zn2_61) (hts _ zn2_62) rfl (by decide +kernel) ⟨Nat.le_trans (by decide) hR1, Nat.le_trans (by decide) hR2⟩) rfl hl.1 (Nat.le_of_ble_eq_true rfl) d_Program_init_52 ⟨Nat.le_trans (by decide) hR3, Nat.le_trans (by decide) hR4⟩ (fun H locs hw => ?_)
  refine W.widen (k := 38) (n := 372) (by decide) (by decide) ?_
  refine zk_aast (t := 7) (n := 50) (ci := 6) (x := 117) (i := 33) G hw 83 (by decide) (by decide) rfl rfl (by decide) rfl (by decide) rfl rfl (by decide) d_Program_init_55 (fun H locs hw => ?_)
  refine lv_iinc (v := 34) hx hb d_Program_init_56 hl (k := 0) rfl (by decide) (by decide) rfl (fun ls hl => ?_)
  have hl : lv_has ls 2 [(1, .int 34), (0, .ref (ad 79))] := hl
  refine lv_goto hx hb d_Program_init_59 (tgt := 37) rfl ?_
  refine lv_iload_n hx hb d_Program_init_37 rfl (lv_at hl 0 rfl) ?_
  refine lv_bipush (v := 50) hx hb d_Program_init_38 (by decide) ?_
  refine lv_icmp_ge hx hb d_Program_init_40 (tgt := 62) rfl (fun hc => absurd hc (by decide)) (fun _ => ?_)
  refine lv_aload_n hx hb d_Program_init_43 rfl (lv_at hl 1 rfl) ?_
  refine zk_get (ci := 5) G hw 79 7 (by decide) zi_5 rfl rfl rfl (by decide) zn2_54 (fun _ h => h) (q := 83) rfl rfl (by decide) d_Program_init_44 ?_
  refine lv_iload_n hx hb d_Program_init_47 rfl (lv_at hl 0 rfl) ?_
  refine zk_new (ci := 6) G hw zi_6 t_zd6 t_zd6_ok rfl rfl rfl (by decide) (zh_6 ad _) zn2_53 zn2_55 zn2_56 (Nat.le_trans (by decide) hR3) (Nat.le_trans (by decide) hR4) d_Program_init_48 (fun H hw => ?_)
  refine W.widen (k := 39) (n := 381) (by decide) (by decide) ?_
  refine lv_dup hx hb d_Program_init_51 rfl ?_
  refine zk_call (rest := [.ref (ad 118), .int 34, .ref (ad 83)]) (o := 118) G hw [] (zk_Statement_init_118 hJ had hA) (cwI 0 hts (zs_gC zn2_60) rfl rfl rfl (hts _ zn2_56) (hts _ zn2_61) (hts _ zn2_62) rfl (by decide +kernel) ⟨Nat.le_trans (by decide) hR1, Nat.le_trans (by decide) hR2⟩) rfl hl.1 (Nat.le_of_ble_eq_true rfl) d_Program_init_52 ⟨Nat.le_trans (by decide) hR3, Nat.le_trans (by decide) hR4⟩ (fun H locs hw => ?_)
  refine W.widen (k := 39) (n := 381) (by decide) (by decide) ?_
  refine zk_aast (t := 7) (n := 50) (ci := 6) (x := 118) (i := 34) G hw 83 (by decide) (by decide) rfl rfl (by decide) rfl (by decide) rfl rfl (by decide) d_Program_init_55 (fun H locs hw => ?_)
  refine lv_iinc (v := 35) hx hb d_Program_init_56 hl (k := 0) rfl (by decide) (by decide) rfl (fun ls hl => ?_)
  have hl : lv_has ls 2 [(1, .int 35), (0, .ref (ad 79))] := hl
  refine lv_goto hx hb d_Program_init_59 (tgt := 37) rfl ?_
  refine lv_iload_n hx hb d_Program_init_37 rfl (lv_at hl 0 rfl) ?_
  refine lv_bipush (v := 50) hx hb d_Program_init_38 (by decide) ?_
  refine lv_icmp_ge hx hb d_Program_init_40 (tgt := 62) rfl (fun hc => absurd hc (by decide)) (fun _ => ?_)
  refine lv_aload_n hx hb d_Program_init_43 rfl (lv_at hl 1 rfl) ?_
  refine zk_get (ci := 5) G hw 79 7 (by decide) zi_5 rfl rfl rfl (by decide) zn2_54 (fun _ h => h) (q := 83) rfl rfl (by decide) d_Program_init_44 ?_
  refine lv_iload_n hx hb d_Program_init_47 rfl (lv_at hl 0 rfl) ?_
  refine zk_new (ci := 6) G hw zi_6 t_zd6 t_zd6_ok rfl rfl rfl (by decide) (zh_6 ad _) zn2_53 zn2_55 zn2_56 (Nat.le_trans (by decide) hR3) (Nat.le_trans (by decide) hR4) d_Program_init_48 (fun H hw => ?_)
  refine W.widen (k := 40) (n := 390) (by decide) (by decide) ?_
  refine lv_dup hx hb d_Program_init_51 rfl ?_
  refine zk_call (rest := [.ref (ad 119), .int 35, .ref (ad 83)]) (o := 119) G hw [] (zk_Statement_init_119 hJ had hA) (cwI 0 hts (zs_gC zn2_60) rfl rfl rfl (hts _ zn2_56) (hts _ zn2_61) (hts _ zn2_62) rfl (by decide +kernel) ⟨Nat.le_trans (by decide) hR1, Nat.le_trans (by decide) hR2⟩) rfl hl.1 (Nat.le_of_ble_eq_true rfl) d_Program_init_52 ⟨Nat.le_trans (by decide) hR3, Nat.le_trans (by decide) hR4⟩ (fun H locs hw => ?_)
  refine W.widen (k := 40) (n := 390) (by decide) (by decide) ?_
  refine zk_aast (t := 7) (n := 50) (ci := 6) (x := 119) (i := 35) G hw 83 (by decide) (by decide) rfl rfl (by decide) rfl (by decide) rfl rfl (by decide) d_Program_init_55 (fun H locs hw => ?_)
  refine lv_iinc (v := 36) hx hb d_Program_init_56 hl (k := 0) rfl (by decide) (by decide) rfl (fun ls hl => ?_)
  have hl : lv_has ls 2 [(1, .int 36), (0, .ref (ad 79))] := hl
  refine lv_goto hx hb d_Program_init_59 (tgt := 37) rfl ?_
  refine lv_iload_n hx hb d_Program_init_37 rfl (lv_at hl 0 rfl) ?_
  refine lv_bipush (v := 50) hx hb d_Program_init_38 (by decide) ?_
  refine lv_icmp_ge hx hb d_Program_init_40 (tgt := 62) rfl (fun hc => absurd hc (by decide)) (fun _ => ?_)
  refine lv_aload_n hx hb d_Program_init_43 rfl (lv_at hl 1 rfl) ?_
  refine zk_get (ci := 5) G hw 79 7 (by decide) zi_5 rfl rfl rfl (by decide) zn2_54 (fun _ h => h) (q := 83) rfl rfl (by decide) d_Program_init_44 ?_
  refine lv_iload_n hx hb d_Program_init_47 rfl (lv_at hl 0 rfl) ?_
  refine zk_new (ci := 6) G hw zi_6 t_zd6 t_zd6_ok rfl rfl rfl (by decide) (zh_6 ad _) zn2_53 zn2_55 zn2_56 (Nat.le_trans (by decide) hR3) (Nat.le_trans (by decide) hR4) d_Program_init_48 (fun H hw => ?_)
  refine W.widen (k := 41) (n := 399) (by decide) (by decide) ?_
  refine lv_dup hx hb d_Program_init_51 rfl ?_
  refine zk_call (rest := [.ref (ad 120), .int 36, .ref (ad 83)]) (o := 120) G hw [] (zk_Statement_init_120 hJ had hA) (cwI 0 hts (zs_gC zn2_60) rfl rfl rfl (hts _ zn2_56) (hts _ zn2_61) (hts _ zn2_62) rfl (by decide +kernel) ⟨Nat.le_trans (by decide) hR1, Nat.le_trans (by decide) hR2⟩) rfl hl.1 (Nat.le_of_ble_eq_true rfl) d_Program_init_52 ⟨Nat.le_trans (by decide) hR3, Nat.le_trans (by decide) hR4⟩ (fun H locs hw => ?_)
  refine W.widen (k := 41) (n := 399) (by decide) (by decide) ?_
  refine zk_aast (t := 7) (n := 50) (ci := 6) (x := 120) (i := 36) G hw 83 (by decide) (by decide) rfl rfl (by decide) rfl (by decide) rfl rfl (by decide) d_Program_init_55 (fun H locs hw => ?_)
  refine lv_iinc (v := 37) hx hb d_Program_init_56 hl (k := 0) rfl (by decide) (by decide) rfl (fun ls hl => ?_)
  have hl : lv_has ls 2 [(1, .int 37), (0, .ref (ad 79))] := hl
  refine lv_goto hx hb d_Program_init_59 (tgt := 37) rfl ?_
  refine lv_iload_n hx hb d_Program_init_37 rfl (lv_at hl 0 rfl) ?_
  refine lv_bipush (v := 50) hx hb d_Program_init_38 (by decide) ?_
  refine lv_icmp_ge hx hb d_Program_init_40 (tgt := 62) rfl (fun hc => absurd hc (by decide)) (fun _ => ?_)
  refine lv_aload_n hx hb d_Program_init_43 rfl (lv_at hl 1 rfl) ?_
  refine zk_get (ci := 5) G hw 79 7 (by decide) zi_5 rfl rfl rfl (by decide) zn2_54 (fun _ h => h) (q := 83) rfl rfl (by decide) d_Program_init_44 ?_
  refine lv_iload_n hx hb d_Program_init_47 rfl (lv_at hl 0 rfl) ?_
  refine zk_new (ci := 6) G hw zi_6 t_zd6 t_zd6_ok rfl rfl rfl (by decide) (zh_6 ad _) zn2_53 zn2_55 zn2_56 (Nat.le_trans (by decide) hR3) (Nat.le_trans (by decide) hR4) d_Program_init_48 (fun H hw => ?_)
  refine W.widen (k := 42) (n := 408) (by decide) (by decide) ?_
  refine lv_dup hx hb d_Program_init_51 rfl ?_
  refine zk_call (rest := [.ref (ad 121), .int 37, .ref (ad 83)]) (o := 121) G hw [] (zk_Statement_init_121 hJ had hA) (cwI 0 hts (zs_gC zn2_60) rfl rfl rfl (hts _ zn2_56) (hts _ zn2_61) (hts _ zn2_62) rfl (by decide +kernel) ⟨Nat.le_trans (by decide) hR1, Nat.le_trans (by decide) hR2⟩) rfl hl.1 (Nat.le_of_ble_eq_true rfl) d_Program_init_52 ⟨Nat.le_trans (by decide) hR3, Nat.le_trans (by decide) hR4⟩ (fun H locs hw => ?_)
  refine W.widen (k := 42) (n := 408) (by decide) (by decide) ?_
  refine zk_aast (t := 7) (n := 50) (ci := 6) (x := 121) (i := 37) G hw 83 (by decide) (by decide) rfl rfl (by decide) rfl (by decide) rfl rfl (by decide) d_Program_init_55 (fun H locs hw => ?_)
  refine lv_iinc (v := 38) hx hb d_Program_init_56 hl (k := 0) rfl (by decide) (by decide) rfl (fun ls hl => ?_)
  have hl : lv_has ls 2 [(1, .int 38), (0, .ref (ad 79))] := hl
  refine lv_goto hx hb d_Program_init_59 (tgt := 37) rfl ?_
  refine lv_iload_n hx hb d_Program_init_37 rfl (lv_at hl 0 rfl) ?_
  refine lv_bipush (v := 50) hx hb d_Program_init_38 (by decide) ?_
  refine lv_icmp_ge hx hb d_Program_init_40 (tgt := 62) rfl (fun hc => absurd hc (by decide)) (fun _ => ?_)
  refine lv_aload_n hx hb d_Program_init_43 rfl (lv_at hl 1 rfl) ?_
  refine zk_get (ci := 5) G hw 79 7 (by decide) zi_5 rfl rfl rfl (by decide) zn2_54 (fun _ h => h) (q := 83) rfl rfl (by decide) d_Program_init_44 ?_
  refine lv_iload_n hx hb d_Program_init_47 rfl (lv_at hl 0 rfl) ?_
  refine zk_new (ci := 6) G hw zi_6 t_zd6 t_zd6_ok rfl rfl rfl (by decide) (zh_6 ad _) zn2_53 zn2_55 zn2_56 (Nat.le_trans (by decide) hR3) (Nat.le_trans (by decide) hR4) d_Program_init_48 (fun H hw => ?_)
  refine W.widen (k := 43) (n := 417) (by decide) (by decide) ?_
  refine lv_dup hx hb d_Program_init_51 rfl ?_
  refine zk_call (rest := [.ref (ad 122), .int 38, .ref (ad 83)]) (o := 122) G hw [] (zk_Statement_init_122 hJ had hA) (cwI 0 hts (zs_gC zn2_60) rfl rfl rfl (hts _ zn2_56) (hts _ zn2_61) (hts _ zn2_62) rfl (by decide +kernel) ⟨Nat.le_trans (by decide) hR1, Nat.le_trans (by decide) hR2⟩) rfl hl.1 (Nat.le_of_ble_eq_true rfl) d_Program_init_52 ⟨Nat.le_trans (by decide) hR3, Nat.le_trans (by decide) hR4⟩ (fun H locs hw => ?_)
  refine W.widen (k := 43) (n := 417) (by decide) (by decide) ?_
  refine zk_aast (t := 7) (n := 50) (ci := 6) (x := 122) (i := 38) G hw 83 (by decide) (by decide) rfl rfl (by decide) rfl (by decide) rfl rfl (by decide) d_Program_init_55 (fun H locs hw => ?_)
  refine lv_iinc (v := 39) hx hb d_Program_init_56 hl (k := 0) rfl (by decide) (by decide) rfl (fun ls hl => ?_)
  have hl : lv_has ls 2 [(1, .int 39), (0, .ref (ad 79))] := hl
  refine lv_goto hx hb d_Program_init_59 (tgt := 37) rfl ?_
  refine lv_iload_n hx hb d_Program_init_37 rfl (lv_at hl 0 rfl) ?_
  refine lv_bipush (v := 50) hx hb d_Program_init_38 (by decide) ?_
  refine lv_icmp_ge hx hb d_Program_init_40 (tgt := 62) rfl (fun hc => absurd hc (by decide)) (fun _ => ?_)
  refine lv_aload_n hx hb d_Program_init_43 rfl (lv_at hl 1 rfl) ?_
  refine zk_get (ci := 5) G hw 79 7 (by decide) zi_5 rfl rfl rfl (by decide) zn2_54 (fun _ h => h) (q := 83) rfl rfl (by decide) d_Program_init_44 ?_
  refine lv_iload_n hx hb d_Program_init_47 rfl (lv_at hl 0 rfl) ?_
  refine zk_new (ci := 6) G hw zi_6 t_zd6 t_zd6_ok rfl rfl rfl (by decide) (zh_6 ad _) zn2_53 zn2_55 zn2_56 (Nat.le_trans (by decide) hR3) (Nat.le_trans (by decide) hR4) d_Program_init_48 (fun H hw => ?_)
  refine W.widen (k := 44) (n := 426) (by decide) (by decide) ?_
  refine lv_dup hx hb d_Program_init_51 rfl ?_
  refine zk_call (rest := [.ref (ad 123), .int 39, .ref (ad 83)]) (o := 123) G hw [] (zk_Statement_init_123 hJ had hA) (cwI 0 hts (zs_gC zn2_60) rfl rfl rfl (hts _ zn2_56) (hts _ zn2_61) (hts _ zn2_62) rfl (by decide +kernel) ⟨Nat.le_trans (by decide) hR1, Nat.le_trans (by decide) hR2⟩) rfl hl.1 (Nat.le_of_ble_eq_true rfl) d_Program_init_52 ⟨Nat.le_trans (by decide) hR3, Nat.le_trans (by decide) hR4⟩ (fun H locs hw => ?_)
  refine W.widen (k := 44) (n := 426) (by decide) (by decide) ?_
  refine zk_aast (t := 7) (n := 50) (ci := 6) (x := 123) (i := 39) G hw 83 (by decide) (by decide) rfl rfl (by decide) rfl (by decide) rfl rfl (by decide) d_Program_init_55 (fun H locs hw => ?_)
  refine lv_iinc (v := 40) hx hb d_Program_init_56 hl (k := 0) rfl (by decide) (by decide) rfl (fun ls hl => ?_)
  have hl : lv_has ls 2 [(1, .int 40), (0, .ref (ad 79))] := hl
  refine lv_goto hx hb d_Program_init_59 (tgt := 37) rfl ?_
  refine lv_iload_n hx hb d_Program_init_37 rfl (lv_at hl 0 rfl) ?_
  refine lv_bipush (v := 50) hx hb d_Program_init_38 (by decide) ?_
  refine lv_icmp_ge hx hb d_Program_init_40 (tgt := 62) rfl (fun hc => absurd hc (by decide)) (fun _ => ?_)
  refine lv_aload_n hx hb d_Program_init_43 rfl (lv_at hl 1 rfl) ?_
  refine zk_get (ci := 5) G hw 79 7 (by decide) zi_5 rfl rfl rfl (by decide) zn2_54 (fun _ h => h) (q := 83) rfl rfl (by decide) d_Program_init_44 ?_
  refine lv_iload_n hx hb d_Program_init_47 rfl (lv_at hl 0 rfl) ?_
  refine zk_new (ci := 6) G hw zi_6 t_zd6 t_zd6_ok rfl rfl rfl (by decide) (zh_6 ad _) zn2_53 zn2_55 zn2_56 (Nat.le_trans (by decide) hR3) (Nat.le_trans (by decide) hR4) d_Program_init_48 (fun H hw => ?_)
  refine W.widen (k := 45) (n := 435) (by decide) (by decide) ?_
  refine lv_dup hx hb d_Program_init_51 rfl ?_
  refine zk_call (rest := [.ref (ad 124), .int 40, .ref (ad 83)]) (o := 124) G hw [] (zk_Statement_init_124 hJ had hA) (cwI 0 hts (zs_gC zn2_60) rfl rfl rfl (hts _ zn2_56) (hts _ zn2_61) (hts _ zn2_62) rfl (by decide +kernel) ⟨Nat.le_trans (by decide) hR1, Nat.le_trans (by decide) hR2⟩) rfl hl.1 (Nat.le_of_ble_eq_true rfl) d_Program_init_52 ⟨Nat.le_trans (by decide) hR3, Nat.le_trans (by decide) hR4⟩ (fun H locs hw => ?_)
  refine W.widen (k := 45) (n := 435) (by decide) (by decide) ?_
  refine zk_aast (t := 7) (n := 50) (ci := 6) (x := 124) (i := 40) G hw 83 (by decide) (by decide) rfl rfl (by decide) rfl (by decide) rfl rfl (by decide) d_Program_init_55 (fun H locs hw => ?_)
  refine lv_iinc (v := 41) hx hb d_Program_init_56 hl (k := 0) rfl (by decide) (by decide) rfl (fun ls hl => ?_)
  have hl : lv_has ls 2 [(1, .int 41), (0, .ref (ad 79))] := hl
  refine lv_goto hx hb d_Program_init_59 (tgt := 37) rfl ?_
  refine lv_iload_n hx hb d_Program_init_37 rfl (lv_at hl 0 rfl) ?_
  refine lv_bipush (v := 50) hx hb d_Program_init_38 (by decide) ?_
  refine lv_icmp_ge hx hb d_Program_init_40 (tgt := 62) rfl (fun hc => absurd hc (by decide)) (fun _ => ?_)
  refine lv_aload_n hx hb d_Program_init_43 rfl (lv_at hl 1 rfl) ?_
  refine zk_get (ci := 5) G hw 79 7 (by decide) zi_5 rfl rfl rfl (by decide) zn2_54 (fun _ h => h) (q := 83) rfl rfl (by decide) d_Program_init_44 ?_
  refine lv_iload_n hx hb d_Program_init_47 rfl (lv_at hl 0 rfl) ?_
  refine zk_new (ci := 6) G hw zi_6 t_zd6 t_zd6_ok rfl rfl rfl (by decide) (zh_6 ad _) zn2_53 zn2_55 zn2_56 (Nat.le_trans (by decide) hR3) (Nat.le_trans (by decide) hR4) d_Program_init_48 (fun H hw => ?_)
  refine W.widen (k := 46) (n := 444) (by decide) (by decide) ?_
  refine lv_dup hx hb d_Program_init_51 rfl ?_
  refine zk_call (rest := [.ref (ad 125), .int 41, .ref (ad 83)]) (o := 125) G hw [] (zk_Statement_init_125 hJ had hA) (cwI 0 hts (zs_gC zn2_60) rfl rfl rfl (hts _ zn2_56) (hts _ zn2_61) (hts _ zn2_62) rfl (by decide +kernel) ⟨Nat.le_trans (by decide) hR1, Nat.le_trans (by decide) hR2⟩) rfl hl.1 (Nat.le_of_ble_eq_true rfl) d_Program_init_52 ⟨Nat.le_trans (by decide) hR3, Nat.le_trans (by decide) hR4⟩ (fun H locs hw => ?_)
  refine W.widen (k := 46) (n := 444) (by decide) (by decide) ?_
  refine zk_aast (t := 7) (n := 50) (ci := 6) (x := 125) (i := 41) G hw 83 (by decide) (by decide) rfl rfl (by decide) rfl (by decide) rfl rfl (by decide) d_Program_init_55 (fun H locs hw => ?_)
  refine lv_iinc (v := 42) hx hb d_Program_init_56 hl (k := 0) rfl (by decide) (by decide) rfl (fun ls hl => ?_)
  have hl : lv_has ls 2 [(1, .int 42), (0, .ref (ad 79))] := hl
  refine lv_goto hx hb d_Program_init_59 (tgt := 37) rfl ?_
  refine lv_iload_n hx hb d_Program_init_37 rfl (lv_at hl 0 rfl) ?_
  refine lv_bipush (v := 50) hx hb d_Program_init_38 (by decide) ?_
  refine lv_icmp_ge hx hb d_Program_init_40 (tgt := 62) rfl (fun hc => absurd hc (by decide)) (fun _ => ?_)
  refine lv_aload_n hx hb d_Program_init_43 rfl (lv_at hl 1 rfl) ?_
  refine zk_get (ci := 5) G hw 79 7 (by decide) zi_5 rfl rfl rfl (by decide) zn2_54 (fun _ h => h) (q := 83) rfl rfl (by decide) d_Program_init_44 ?_
  refine lv_iload_n hx hb d_Program_init_47 rfl (lv_at hl 0 rfl) ?_
  refine zk_new (ci := 6) G hw zi_6 t_zd6 t_zd6_ok rfl rfl rfl (by decide) (zh_6 ad _) zn2_53 zn2_55 zn2_56 (Nat.le_trans (by decide) hR3) (Nat.le_trans (by decide) hR4) d_Program_init_48 (fun H hw => ?_)
  refine W.widen (k := 47) (n := 453) (by decide) (by decide) ?_
  refine lv_dup hx hb d_Program_init_51 rfl ?_
  refine zk_call (rest := [.ref (ad 126), .int 42, .ref (ad 83)]) (o := 126) G hw [] (zk_Statement_init_126 hJ had hA) (cwI 0 hts (zs_gC zn2_60) rfl rfl rfl (hts _ zn2_56) (hts _ zn2_61) (hts _ zn2_62) rfl (by decide +kernel) ⟨Nat.le_trans (by decide) hR1, Nat.le_trans (by decide) hR2⟩) rfl hl.1 (Nat.le_of_ble_eq_true rfl) d_Program_init_52 ⟨Nat.le_trans (by decide) hR3, Nat.le_trans (by decide) hR4⟩ (fun H locs hw => ?_)
  refine W.widen (k := 47) (n := 453) (by decide) (by decide) ?_
  refine zk_aast (t := 7) (n := 50) (ci := 6) (x := 126) (i := 42) G hw 83 (by decide) (by decide) rfl rfl (by decide) rfl (by decide) rfl rfl (by decide) d_Program_init_55 (fun H locs hw => ?_)
  refine lv_iinc (v := 43) hx hb d_Program_init_56 hl (k := 0) rfl (by decide) (by decide) rfl (fun ls hl => ?_)
  have hl : lv_has ls 2 [(1, .int 43), (0, .ref (ad 79))] := hl
  refine lv_goto hx hb d_Program_init_59 (tgt := 37) rfl ?_
  refine lv_iload_n hx hb d_Program_init_37 rfl (lv_at hl 0 rfl) ?_
  refine lv_bipush (v := 50) hx hb d_Program_init_38 (by decide) ?_
  refine lv_icmp_ge hx hb d_Program_init_40 (tgt := 62) rfl (fun hc => absurd hc (by decide)) (fun _ => ?_)
  refine lv_aload_n hx hb d_Program_init_43 rfl (lv_at hl 1 rfl) ?_
  refine zk_get (ci := 5) G hw 79 7 (by decide) zi_5 rfl rfl rfl (by decide) zn2_54 (fun _ h => h) (q := 83) rfl rfl (by decide) d_Program_init_44 ?_
  refine lv_iload_n hx hb d_Program_init_47 rfl (lv_at hl 0 rfl) ?_
  refine zk_new (ci := 6) G hw zi_6 t_zd6 t_zd6_ok rfl rfl rfl (by decide) (zh_6 ad _) zn2_53 zn2_55 zn2_56 (Nat.le_trans (by decide) hR3) (Nat.le_trans (by decide) hR4) d_Program_init_48 (fun H hw => ?_)
  refine W.widen (k := 48) (n := 462) (by decide) (by decide) ?_
  refine lv_dup hx hb d_Program_init_51 rfl ?_
  refine zk_call (rest := [.ref (ad 127), .int 43, .ref (ad 83)]) (o := 127) G hw [] (zk_Statement_init_127 hJ had hA) (cwI 0 hts (zs_gC zn2_60) rfl rfl rfl (hts _ zn2_56) (hts _ zn2_61) (hts _ zn2_62) rfl (by decide +kernel) ⟨Nat.le_trans (by decide) hR1, Nat.le_trans (by decide) hR2⟩) rfl hl.1 (Nat.le_of_ble_eq_true rfl) d_Program_init_52 ⟨Nat.le_trans (by decide) hR3, Nat.le_trans (by decide) hR4⟩ (fun H locs hw => ?_)
  refine W.widen (k := 48) (n := 462) (by decide) (by decide) ?_
  refine zk_aast (t := 7) (n := 50) (ci := 6) (x := 127) (i := 43) G hw 83 (by decide) (by decide) rfl rfl (by decide) rfl (by decide) rfl rfl (by decide) d_Program_init_55 (fun H locs hw => ?_)
  refine lv_iinc (v := 44) hx hb d_Program_init_56 hl (k := 0) rfl (by decide) (by decide) rfl (fun ls hl => ?_)
  have hl : lv_has ls 2 [(1, .int 44), (0, .ref (ad 79))] := hl
  refine lv_goto hx hb d_Program_init_59 (tgt := 37) rfl ?_
  refine lv_iload_n hx hb d_Program_init_37 rfl (lv_at hl 0 rfl) ?_
  refine lv_bipush (v := 50) hx hb d_Program_init_38 (by decide) ?_
  refine lv_icmp_ge hx hb d_Program_init_40 (tgt := 62) rfl (fun hc => absurd hc (by decide)) (fun _ => ?_)
  refine lv_aload_n hx hb d_Program_init_43 rfl (lv_at hl 1 rfl) ?_
  refine zk_get (ci := 5) G hw 79 7 (by decide) zi_5 rfl rfl rfl (by decide) zn2_54 (fun _ h => h) (q := 83) rfl rfl (by decide) d_Program_init_44 ?_
  refine lv_iload_n hx hb d_Program_init_47 rfl (lv_at hl 0 rfl) ?_
  refine zk_new (ci := 6) G hw zi_6 t_zd6 t_zd6_ok rfl rfl rfl (by decide) (zh_6 ad _) zn2_53 zn2_55 zn2_56 (Nat.le_trans (by decide) hR3) (Nat.le_trans (by decide) hR4) d_Program_init_48 (fun H hw => ?_)
  refine W.widen (k := 49) (n := 471) (by decide) (by decide) ?_
  refine lv_dup hx hb d_Program_init_51 rfl ?_
  refine zk_call (rest := [.ref (ad 128), .int 44, .ref (ad 83)]) (o := 128) G hw [] (zk_Statement_init_128 hJ had hA) (cwI 0 hts (zs_gC zn2_60) rfl rfl rfl (hts _ zn2_56) (hts _ zn2_61) (hts _ zn2_62) rfl (by decide +kernel) ⟨Nat.le_trans (by decide) hR1, Nat.le_trans (by decide) hR2⟩) rfl hl.1 (Nat.le_of_ble_eq_true rfl) d_Program_init_52 ⟨Nat.le_trans (by decide) hR3, Nat.le_trans (by decide) hR4⟩ (fun H locs hw => ?_)
  refine W.widen (k := 49) (n := 471) (by decide) (by decide) ?_
  refine zk_aast (t := 7) (n := 50) (ci := 6) (x := 128) (i := 44) G hw 83 (by decide) (by decide) rfl rfl (by decide) rfl (by decide) rfl rfl (by decide) d_Program_init_55 (fun H locs hw => ?_)
  refine lv_iinc (v := 45) hx hb d_Program_init_56 hl (k := 0) rfl (by decide) (by decide) rfl (fun ls hl => ?_)
  have hl : lv_has ls 2 [(1, .int 45), (0, .ref (ad 79))] := hl
  refine lv_goto hx hb d_Program_init_59 (tgt := 37) rfl ?_
  refine lv_iload_n hx hb d_Program_init_37 rfl (lv_at hl 0 rfl) ?_
  refine lv_bipush (v := 50) hx hb d_Program_init_38 (by decide) ?_
  refine lv_icmp_ge hx hb d_Program_init_40 (tgt := 62) rfl (fun hc => absurd hc (by decide)) (fun _ => ?_)
  refine lv_aload_n hx hb d_Program_init_43 rfl (lv_at hl 1 rfl) ?_
  refine zk_get (ci := 5) G hw 79 7 (by decide) zi_5 rfl rfl rfl (by decide) zn2_54 (fun _ h => h) (q := 83) rfl rfl (by decide) d_Program_init_44 ?_
  refine lv_iload_n hx hb d_Program_init_47 rfl (lv_at hl 0 rfl) ?_
  refine zk_new (ci := 6) G hw zi_6 t_zd6 t_zd6_ok rfl rfl rfl (by decide) (zh_6 ad _) zn2_53 zn2_55 zn2_56 (Nat.le_trans (by decide) hR3) (Nat.le_trans (by decide) hR4) d_Program_init_48 (fun H hw => ?_)
  refine W.widen (k := 50) (n := 480) (by decide) (by decide) ?_
  refine lv_dup hx hb d_Program_init_51 rfl ?_
  refine zk_call (rest := [.ref (ad 129), .int 45, .ref (ad 83)]) (o := 129) G hw [] (zk_Statement_init_129 hJ had hA) (cwI 0 hts (zs_gC zn2_60) rfl rfl rfl (hts _ zn2_56) (hts _ zn2_61) (hts _ zn2_62) rfl (by decide +kernel) ⟨Nat.le_trans (by decide) hR1, Nat.le_trans (by decide) hR2⟩) rfl hl.1 (Nat.le_of_ble_eq_true rfl) d_Program_init_52 ⟨Nat.le_trans (by decide) hR3, Nat.le_trans (by decide) hR4⟩ (fun H locs hw => ?_)
  refine W.widen (k := 50) (n := 480) (by decide) (by decide) ?_
  refine zk_aast (t := 7) (n := 50) (ci := 6) (x := 129) (i := 45) G hw 83 (by decide) (by decide) rfl rfl (by decide) rfl (by decide) rfl rfl (by decide) d_Program_init_55 (fun H locs hw => ?_)
  refine lv_iinc (v := 46) hx hb d_Program_init_56 hl (k := 0) rfl (by decide) (by decide) rfl (fun ls hl => ?_)
  have hl : lv_has ls 2 [(1, .int 46), (0, .ref (ad 79))] := hl
  refine lv_goto hx hb d_Program_init_59 (tgt := 37) rfl ?_
  refine lv_iload_n hx hb d_Program_init_37 rfl (lv_at hl 0 rfl) ?_
  refine lv_bipush (v := 50) hx hb d_Program_init_38 (by decide) ?_
  refine lv_icmp_ge hx hb d_Program_init_40 (tgt := 62) rfl (fun hc => absurd hc (by decide)) (fun _ => ?_)
  refine lv_aload_n hx hb d_Program_init_43 rfl (lv_at hl 1 rfl) ?_
  refine zk_get (ci := 5) G hw 79 7 (by decide) zi_5 rfl rfl rfl (by decide) zn2_54 (fun _ h => h) (q := 83) rfl rfl (by decide) d_Program_init_44 ?_
  refine lv_iload_n hx hb d_Program_init_47 rfl (lv_at hl 0 rfl) ?_
  refine zk_new (ci := 6) G hw zi_6 t_zd6 t_zd6_ok rfl rfl rfl (by decide) (zh_6 ad _) zn2_53 zn2_55 zn2_56 (Nat.le_trans (by decide) hR3) (Nat.le_trans (by decide) hR4) d_Program_init_48 (fun H hw => ?_)
  refine W.widen (k := 51) (n := 489) (by decide) (by decide) ?_
  refine lv_dup hx hb d_Program_init_51 rfl ?_
  refine zk_call (rest := [.ref (ad 130), .int 46, .ref (ad 83)]) (o := 130) G hw [] (zk_Statement_init_130 hJ had hA) (cwI 0 hts (zs_gC zn2_60) rfl rfl rfl (hts _ zn2_56) (hts _ zn2_61) (hts _ zn2_62) rfl (by decide +kernel) ⟨Nat.le_trans (by decide) hR1, Nat.le_trans (by decide) hR2⟩) rfl hl.1 (Nat.le_of_ble_eq_true rfl) d_Program_init_52 ⟨Nat.le_trans (by decide) hR3, Nat.le_trans (by decide) hR4⟩ (fun H locs hw => ?_)
  refine W.widen (k := 51) (n := 489) (by decide) (by decide) ?_
  refine zk_aast (t := 7) (n := 50) (ci := 6) (x := 130) (i := 46) G hw 83 (by decide) (by decide) rfl rfl (by decide) rfl (by decide) rfl rfl (by decide) d_Program_init_55 (fun H locs hw => ?_)
  refine lv_iinc (v := 47) hx hb d_Program_init_56 hl (k := 0) rfl (by decide) (by decide) rfl (fun ls hl => ?_)
  have hl : lv_has ls 2 [(1, .int 47), (0, .ref (ad 79))] := hl
  refine lv_goto hx hb d_Program_init_59 (tgt := 37) rfl ?_
  refine lv_iload_n hx hb d_Program_init_37 rfl (lv_at hl 0 rfl) ?_
  refine lv_bipush (v := 50) hx hb d_Program_init_38 (by decide) ?_
  refine lv_icmp_ge hx hb d_Program_init_40 (tgt := 62) rfl (fun hc => absurd hc (by decide)) (fun _ => ?_)
  refine lv_aload_n hx hb d_Program_init_43 rfl (lv_at hl 1 rfl) ?_
  refine zk_get (ci := 5) G hw 79 7 (by decide) zi_5 rfl rfl rfl (by decide) zn2_54 (fun _ h => h) (q := 83) rfl rfl (by decide) d_Program_init_44 ?_
  refine lv_iload_n hx hb d_Program_init_47 rfl (lv_at hl 0 rfl) ?_
  refine zk_new (ci := 6) G hw zi_6 t_zd6 t_zd6_ok rfl rfl rfl (by decide) (zh_6 ad _) zn2_53 zn2_55 zn2_56 (Nat.le_trans (by decide) hR3) (Nat.le_trans (by decide) hR4) d_Program_init_48 (fun H hw => ?_)
  refine W.widen (k := 52) (n := 498) (by decide) (by decide) ?_
  refine lv_dup hx hb d_Program_init_51 rfl ?_
  refine zk_call (rest := [.ref (ad 131), .int 47, .ref (ad 83)]) (o := 131) G hw [] (zk_Statement_init_131 hJ had hA) (cwI 0 hts (zs_gC zn2_60) rfl rfl rfl (hts _ zn2_56) (hts _ zn2_61) (hts _ zn2_62) rfl (by decide +kernel) ⟨Nat.le_trans (by decide) hR1, Nat.le_trans (by decide) hR2⟩) rfl hl.1 (Nat.le_of_ble_eq_true rfl) d_Program_init_52 ⟨Nat.le_trans (by decide) hR3, Nat.le_trans (by decide) hR4⟩ (fun H locs hw => ?_)
  refine W.widen (k := 52) (n := 498) (by decide) (by decide) ?_
  refine zk_aast (t := 7) (n := 50) (ci := 6) (x := 131) (i := 47) G hw 83 (by decide) (by decide) rfl rfl (by decide) rfl (by decide) rfl rfl (by decide) d_Program_init_55 (fun H locs hw => ?_)
  refine lv_iinc (v := 48) hx hb d_Program_init_56 hl (k := 0) rfl (by decide) (by decide) rfl (fun ls hl => ?_)
  have hl : lv_has ls 2 [(1, .int 48), (0, .ref (ad 79))] := hl
  refine lv_goto hx hb d_Program_init_59 (tgt := 37) rfl ?_
  refine lv_iload_n hx hb d_Program_init_37 rfl (lv_at hl 0 rfl) ?_
  refine lv_bipush (v := 50) hx hb d_Program_init_38 (by decide) ?_
  refine lv_icmp_ge hx hb d_Program_init_40 (tgt := 62) rfl (fun hc => absurd hc (by decide)) (fun _ => ?_)
  refine lv_aload_n hx hb d_Program_init_43 rfl (lv_at hl 1 rfl) ?_
  refine zk_get (ci := 5) G hw 79 7 (by decide) zi_5 rfl rfl rfl (by decide) zn2_54 (fun _ h => h) (q := 83) rfl rfl (by decide) d_Program_init_44 ?_
  refine lv_iload_n hx hb d_Program_init_47 rfl (lv_at hl 0 rfl) ?_
  refine zk_new (ci := 6) G hw zi_6 t_zd6 t_zd6_ok rfl rfl rfl (by decide) (zh_6 ad _) zn2_53 zn2_55 zn2_56 (Nat.le_trans (by decide) hR3) (Nat.le_trans (by decide) hR4) d_Program_init_48 (fun H hw => ?_)
  refine W.widen (k := 53) (n := 507) (by decide) (by decide) ?_
  refine lv_dup hx hb d_Program_init_51 rfl ?_
  refine zk_call (rest := [.ref (ad 132), .int 48, .ref (ad 83)]) (o := 132) G hw [] (zk_Statement_init_132 hJ had hA) (cwI 0 hts (zs_gC zn2_60) rfl rfl rfl (hts _ zn2_56) (hts _ zn2_61) (hts _ zn2_62) rfl (by decide +kernel) ⟨Nat.le_trans (by decide) hR1, Nat.le_trans (by decide) hR2⟩) rfl hl.1 (Nat.le_of_ble_eq_true rfl) d_Program_init_52 ⟨Nat.le_trans (by decide) hR3, Nat.le_trans (by decide) hR4⟩ (fun H locs hw => ?_)
  refine W.widen (k := 53) (n := 507) (by decide) (by decide) ?_
  refine zk_aast (t := 7) (n := 50) (ci := 6) (x := 132) (i := 48) G hw 83 (by decide) (by decide) rfl rfl (by decide) rfl (by decide) rfl rfl (by decide) d_Program_init_55 (fun H locs hw => ?_)
  refine lv_iinc (v := 49) hx hb d_Program_init_56 hl (k := 0) rfl (by decide) (by decide) rfl (fun ls hl => ?_)
  have hl : lv_has ls 2 [(1, .int 49), (0, .ref (ad 79))] := hl
  refine lv_goto hx hb d_Program_init_59 (tgt := 37) rfl ?_
  refine lv_iload_n hx hb d_Program_init_37 rfl (lv_at hl 0 rfl) ?_
  refine lv_bipush (v := 50) hx hb d_Program_init_38 (by decide) ?_
  refine lv_icmp_ge hx hb d_Program_init_40 (tgt := 62) rfl (fun hc => absurd hc (by decide)) (fun _ => ?_)
  refine lv_aload_n hx hb d_Program_init_43 rfl (lv_at hl 1 rfl) ?_
  refine zk_get (ci := 5) G hw 79 7 (by decide) zi_5 rfl rfl rfl (by decide) zn2_54 (fun _ h => h) (q := 83) rfl rfl (by decide) d_Program_init_44 ?_
  refine lv_iload_n hx hb d_Program_init_47 rfl (lv_at hl 0 rfl) ?_
  refine zk_new (ci := 6) G hw zi_6 t_zd6 t_zd6_ok rfl rfl rfl (by decide) (zh_6 ad _) zn2_53 zn2_55 zn2_56 (Nat.le_trans (by decide) hR3) (Nat.le_trans (by decide) hR4) d_Program_init_48 (fun H hw => ?_)
  refine W.widen (k := 54) (n := 516) (by decide) (by decide) ?_
  refine lv_dup hx hb d_Program_init_51 rfl ?_
  refine zk_call (rest := [.ref (ad 133), .int 49, .ref (ad 83)]) (o := 133) G hw [] (zk_Statement_init_133 hJ had hA) (cwI 0 hts (zs_gC zn2_60) rfl rfl rfl (hts _ zn2_56) (hts _ zn2_61) (hts _ zn2_62) rfl (by decide +kernel) ⟨Nat.le_trans (by decide) hR1, Nat.le_trans (by decide) hR2⟩) rfl hl.1 (Nat.le_of_ble_eq_true rfl) d_Program_init_52 ⟨Nat.le_trans (by decide) hR3, Nat.le_trans (by decide) hR4⟩ (fun H locs hw => ?_)
  refine W.widen (k := 54) (n := 516) (by decide) (by decide) ?_
  refine zk_aast (t := 7) (n := 50) (ci := 6) (x := 133) (i := 49) G hw 83 (by decide) (by decide) rfl rfl (by decide) rfl (by decide) rfl rfl (by decide) d_Program_init_55 (fun H locs hw => ?_)
  refine lv_iinc (v := 50) hx hb d_Program_init_56 hl (k := 0) rfl (by decide) (by decide) rfl (fun ls hl => ?_)
  have hl : lv_has ls 2 [(1, .int 50), (0, .ref (ad 79))] := hl
  refine lv_goto hx hb d_Program_init_59 (tgt := 37) rfl ?_
  refine lv_iload_n hx hb d_Program_init_37 rfl (lv_at hl 0 rfl) ?_
  refine lv_bipush (v := 50) hx hb d_Program_init_38 (by decide) ?_
  refine lv_icmp_ge hx hb d_Program_init_40 (tgt := 62) rfl (fun _ => ?_) (fun hc => absurd hc (by decide))
  refine lv_aload_n hx hb d_Program_init_62 rfl (lv_at hl 1 rfl) ?_
  refine zk_new (ci := 7) G hw zi_7 t_zd7 t_zd7_ok rfl rfl rfl (by decide) (zh_7 ad _) zn2_63 zn2_64 zn2_65 (Nat.le_trans (by decide) hR3) (Nat.le_trans (by decide) hR4) d_Program_init_63 (fun H hw => ?_)
  refine W.widen (k := 55) (n := 520) (by decide) (by decide) ?_
  refine lv_dup hx hb d_Program_init_66 rfl ?_
  refine zk_call (rest := [.ref (ad 134), .ref (ad 79)]) (o := 134) G hw [] (zk_Code_init_134 hJ had hA) (cwI 0 hts (zs_gC zn2_71) rfl rfl rfl (hts _ zn2_65) (hts _ zn2_72) (hts _ zn2_73) rfl (by decide +kernel) ⟨Nat.le_trans (by decide) hR1, Nat.le_trans (by decide) hR2⟩) rfl hl.1 (Nat.le_of_ble_eq_true rfl) d_Program_init_67 ⟨Nat.le_trans (by decide) hR3, Nat.le_trans (by decide) hR4⟩ (fun H locs hw => ?_)
  refine W.widen (k := 58) (n := 3870) (by decide) (by decide) ?_
  refine zk_putF (ci := 5) G hw 79 8 (by decide) (by decide) zi_5 t_zd5 t_zd5_ok n_zd5 rfl rfl rfl (by decide) rfl zn2_74 (fun _ h => h) rfl hin rfl (x := 134) (by decide) (t_zd5_ok 8 (by decide)) rfl rfl d_Program_init_70 (fun H locs hw => ?_)
  exact zk_vret G hw hr hlocks hQ d_Program_init_73
def y_Explorer_init : MethodName := ⟨"ScheduleCheck$Explorer","<init>","(LScheduleCheck$States;LScheduleCheck$Program;)V"⟩
theorem d_Explorer_init_0 : decode prog_4_method_1_code 0 = .ok (.aload_n 0, 1) := by decide +kernel
theorem d_Explorer_init_1 : decode prog_4_method_1_code 1 = .ok (.invokespecial 3, 3) := by decide +kernel
theorem d_Explorer_init_4 : decode prog_4_method_1_code 4 = .ok (.aload_n 0, 1) := by decide +kernel
theorem d_Explorer_init_5 : decode prog_4_method_1_code 5 = .ok (.aload_n 1, 1) := by decide +kernel
theorem d_Explorer_init_6 : decode prog_4_method_1_code 6 = .ok (.putfield 9, 3) := by decide +kernel
theorem d_Explorer_init_9 : decode prog_4_method_1_code 9 = .ok (.aload_n 0, 1) := by decide +kernel
theorem d_Explorer_init_10 : decode prog_4_method_1_code 10 = .ok (.aload_n 2, 1) := by decide +kernel
theorem d_Explorer_init_11 : decode prog_4_method_1_code 11 = .ok (.putfield 15, 3) := by decide +kernel
theorem d_Explorer_init_14 : decode prog_4_method_1_code 14 = .ok (.return_, 1) := by decide +kernel
def zk_f_Explorer_init_138 (σ : zs_S) : zs_S := (zs_wr (zs_wr σ 138 0 10) 138 1 20)
set_option maxHeartbeats 8000000 in
set_option maxRecDepth 100000 in
theorem zk_Explorer_init_138 {l : Launch} {D : va_G} {cA : Nat → ClassId} {ad : Nat → Nat} {A : Nat → Prop} {b : Nat} {σ : zs_S} (hJ : zs_J ad) (had : ∀ o, 1 ≤ o → o ≤ zd_M 2 → ad o = b + (o - 1)) (hA : ∀ q, b ≤ q → A q) : Met l y_Explorer_init (.code y_Explorer_init prog_4_method_1_code 3 none :: zd_ww) { frames := 1, cells := 0, slots := 0, locals := 30 } (va_Pc [.ref (ad 138), .ref (ad 10), .ref (ad 20)] (zk_U 2 D cA ad A b 138 σ)) (zk_Q 2 D cA ad A b 138 (zk_f_Explorer_init_138 σ)) 0 0 A := by
  refine Met.ofW (cc := prog_4_method_1_code) (maxL := 3) (ret := none) (by decide) rfl ?_
  intro p e s m args below meth c s₁ B hml hv
  obtain ⟨hargs, hP, hK, hD, hZ, hz, hd, hO⟩ := hv
  have G : zk_G 2 p s m args c prog_4_method_1_code 3 "ScheduleCheck$Explorer" D cA ad A b := ⟨⟨B.exec, B.bytes, hml, findClass_of_methodNamed B.named, fun w h => atoms_spec B.pre w (List.mem_cons_of_mem _ h)⟩, hK, hJ, hZ, had, hA, hO⟩
  have hw : zk_I 2 D cA ad A s b 138 σ s.heap [] := ⟨hP, hD, va_S.rf, hz, hd⟩
  have hx := G.1.1
  have hb := G.1.2.1
  have hown := G.1.2.2.2.1
  have hts := G.1.2.2.2.2
  have hr := B.returns
  have hlocks := B.notSynchronized
  have hin : meth.name = "<init>" := (name_of_methodNamed B.named B.method).1
  have he : entryFrame m args 3 = F0 m 0 ((lg_sl [.ref (ad 138), .ref (ad 10), .ref (ad 20)] ++ List.replicate (3 - (lg_sl [.ref (ad 138), .ref (ad 10), .ref (ad 20)]).length) Slot.unset).toArray) [] := by rw [hargs]; exact lg_entry_eq m _ 3
  have hl := lv_entry [.ref (ad 138), .ref (ad 10), .ref (ad 20)] (n := 3) (Nat.le_of_ble_eq_true rfl)
  rw [he]
  generalize (lg_sl [.ref (ad 138), .ref (ad 10), .ref (ad 20)] ++ List.replicate (3 - (lg_sl [.ref (ad 138), .ref (ad 10), .ref (ad 20)]).length) Slot.unset).toArray = ls at hl
  have hl : lv_has ls 3 [(0, .ref (ad 138)), (1, .ref (ad 10)), (2, .ref (ad 20))] := hl
  obtain ⟨RR, hR⟩ : ∃ z, z = (headSpec (.code y_Explorer_init prog_4_method_1_code 3 none :: zd_ww) { frames := 1, cells := 0, slots := 0, locals := 30 }).room := ⟨_, rfl⟩
  rw [← hR]
  obtain ⟨QQ, hQ⟩ : ∃ z, z = MQ below (zk_Q 2 D cA ad A b 138 (zk_f_Explorer_init_138 σ)) args s 0 0 A := ⟨_, rfl⟩
  rw [← hQ]
  have hR1 : 1 ≤ RR.frames := by rw [hR]; exact Nat.le_refl _
  have hR2 : 30 ≤ RR.locals := by rw [hR]; exact Nat.le_refl _
  have hR3 : 0 ≤ RR.cells := by rw [hR]; exact Nat.le_refl _
  have hR4 : 0 ≤ RR.slots := by rw [hR]; exact Nat.le_refl _
  generalize s.heap = H at hw ⊢
  generalize ([] : List Loc) = locs at hw ⊢
  refine lv_aload_n hx hb d_Explorer_init_0 rfl (lv_at hl 0 rfl) ?_
  refine W.objInit hx hb hown (hts _ zn2_83) (hts _ zn2_1) (hts _ zn2_2) rfl (by rw [hml]; exact hl.1) rfl d_Explorer_init_1 (Nat.le_trans (by decide) hR1) (Nat.le_trans (Nat.le_of_ble_eq_true rfl) hR2) ?_
  refine W.eq (g2 := F0 m 4 ls []) rfl ?_
  refine lv_aload_n hx hb d_Explorer_init_4 rfl (lv_at hl 0 rfl) ?_
  refine lv_aload_n hx hb d_Explorer_init_5 rfl (lv_at hl 1 rfl) ?_
  refine zk_putF (ci := 4) G hw 138 0 (by decide) (by decide) zi_4 t_zd4 t_zd4_ok n_zd4 rfl rfl rfl (by decide) rfl zn2_84 (fun _ h => h) rfl hin rfl (x := 10) (by decide) (t_zd4_ok 0 (by decide)) rfl rfl d_Explorer_init_6 (fun H locs hw => ?_)
  refine lv_aload_n hx hb d_Explorer_init_9 rfl (lv_at hl 0 rfl) ?_
  refine lv_aload_n hx hb d_Explorer_init_10 rfl (lv_at hl 2 rfl) ?_
  refine zk_putr (ci := 4) G hw 138 1 (by decide) (by decide) zi_4 t_zd4 t_zd4_ok n_zd4 rfl rfl rfl (by decide) rfl zn2_85 (fun _ h => h) rfl  (x := 20) (by decide) (t_zd4_ok 1 (by decide)) rfl rfl d_Explorer_init_11 (fun H locs hw => ?_)
  exact zk_vret G hw hr hlocks hQ d_Explorer_init_14
def y_S_init : MethodName := ⟨"ScheduleCheck","<init>","()V"⟩
theorem d_S_init_0 : decode prog_1_method_1_code 0 = .ok (.aload_n 0, 1) := by decide +kernel
theorem d_S_init_1 : decode prog_1_method_1_code 1 = .ok (.invokespecial 3, 3) := by decide +kernel
theorem d_S_init_4 : decode prog_1_method_1_code 4 = .ok (.aload_n 0, 1) := by decide +kernel
theorem d_S_init_5 : decode prog_1_method_1_code 5 = .ok (.sipush 1600, 3) := by decide +kernel
theorem d_S_init_8 : decode prog_1_method_1_code 8 = .ok (.newarray .byte, 2) := by decide +kernel
theorem d_S_init_10 : decode prog_1_method_1_code 10 = .ok (.putfield 9, 3) := by decide +kernel
theorem d_S_init_13 : decode prog_1_method_1_code 13 = .ok (.aload_n 0, 1) := by decide +kernel
theorem d_S_init_14 : decode prog_1_method_1_code 14 = .ok (.new 13, 3) := by decide +kernel
theorem d_S_init_17 : decode prog_1_method_1_code 17 = .ok (.dup, 1) := by decide +kernel
theorem d_S_init_18 : decode prog_1_method_1_code 18 = .ok (.invokespecial 15, 3) := by decide +kernel
theorem d_S_init_21 : decode prog_1_method_1_code 21 = .ok (.putfield 16, 3) := by decide +kernel
theorem d_S_init_24 : decode prog_1_method_1_code 24 = .ok (.aload_n 0, 1) := by decide +kernel
theorem d_S_init_25 : decode prog_1_method_1_code 25 = .ok (.new 20, 3) := by decide +kernel
theorem d_S_init_28 : decode prog_1_method_1_code 28 = .ok (.dup, 1) := by decide +kernel
theorem d_S_init_29 : decode prog_1_method_1_code 29 = .ok (.invokespecial 22, 3) := by decide +kernel
theorem d_S_init_32 : decode prog_1_method_1_code 32 = .ok (.putfield 23, 3) := by decide +kernel
theorem d_S_init_35 : decode prog_1_method_1_code 35 = .ok (.aload_n 0, 1) := by decide +kernel
theorem d_S_init_36 : decode prog_1_method_1_code 36 = .ok (.new 27, 3) := by decide +kernel
theorem d_S_init_39 : decode prog_1_method_1_code 39 = .ok (.dup, 1) := by decide +kernel
theorem d_S_init_40 : decode prog_1_method_1_code 40 = .ok (.invokespecial 29, 3) := by decide +kernel
theorem d_S_init_43 : decode prog_1_method_1_code 43 = .ok (.putfield 30, 3) := by decide +kernel
theorem d_S_init_46 : decode prog_1_method_1_code 46 = .ok (.aload_n 0, 1) := by decide +kernel
theorem d_S_init_47 : decode prog_1_method_1_code 47 = .ok (.new 34, 3) := by decide +kernel
theorem d_S_init_50 : decode prog_1_method_1_code 50 = .ok (.dup, 1) := by decide +kernel
theorem d_S_init_51 : decode prog_1_method_1_code 51 = .ok (.invokespecial 36, 3) := by decide +kernel
theorem d_S_init_54 : decode prog_1_method_1_code 54 = .ok (.putfield 37, 3) := by decide +kernel
theorem d_S_init_57 : decode prog_1_method_1_code 57 = .ok (.aload_n 0, 1) := by decide +kernel
theorem d_S_init_58 : decode prog_1_method_1_code 58 = .ok (.new 34, 3) := by decide +kernel
theorem d_S_init_61 : decode prog_1_method_1_code 61 = .ok (.dup, 1) := by decide +kernel
theorem d_S_init_62 : decode prog_1_method_1_code 62 = .ok (.invokespecial 36, 3) := by decide +kernel
theorem d_S_init_65 : decode prog_1_method_1_code 65 = .ok (.putfield 41, 3) := by decide +kernel
theorem d_S_init_68 : decode prog_1_method_1_code 68 = .ok (.aload_n 0, 1) := by decide +kernel
theorem d_S_init_69 : decode prog_1_method_1_code 69 = .ok (.new 44, 3) := by decide +kernel
theorem d_S_init_72 : decode prog_1_method_1_code 72 = .ok (.dup, 1) := by decide +kernel
theorem d_S_init_73 : decode prog_1_method_1_code 73 = .ok (.aload_n 0, 1) := by decide +kernel
theorem d_S_init_74 : decode prog_1_method_1_code 74 = .ok (.getfield 30, 3) := by decide +kernel
theorem d_S_init_77 : decode prog_1_method_1_code 77 = .ok (.aload_n 0, 1) := by decide +kernel
theorem d_S_init_78 : decode prog_1_method_1_code 78 = .ok (.getfield 37, 3) := by decide +kernel
theorem d_S_init_81 : decode prog_1_method_1_code 81 = .ok (.invokespecial 46, 3) := by decide +kernel
theorem d_S_init_84 : decode prog_1_method_1_code 84 = .ok (.putfield 49, 3) := by decide +kernel
theorem d_S_init_87 : decode prog_1_method_1_code 87 = .ok (.aload_n 0, 1) := by decide +kernel
theorem d_S_init_88 : decode prog_1_method_1_code 88 = .ok (.sipush 256, 3) := by decide +kernel
theorem d_S_init_91 : decode prog_1_method_1_code 91 = .ok (.newarray .byte, 2) := by decide +kernel
theorem d_S_init_93 : decode prog_1_method_1_code 93 = .ok (.putfield 53, 3) := by decide +kernel
theorem d_S_init_96 : decode prog_1_method_1_code 96 = .ok (.return_, 1) := by decide +kernel
def zk_f_S_init_1 (σ : zs_S) : zs_S := (zs_wr (zs_wr (zk_f_Explorer_init_138 (zs_wr (zk_f_Program_init_79 (zs_wr (zk_f_Program_init_20 (zs_wr (zk_f_States_init_10 (zs_wr (zk_f_Parser_init_7 (zs_wr (zk_f_Tokens_init_3 (zs_wr σ 1 0 2)) 1 2 3)) 1 3 7)) 1 4 10)) 1 6 20)) 1 7 79)) 1 5 138) 1 8 139)
set_option maxHeartbeats 8000000 in
set_option maxRecDepth 100000 in
theorem zk_S_init_1 {l : Launch} {D : va_G} {cA : Nat → ClassId} {ad : Nat → Nat} {A : Nat → Prop} {b : Nat} {σ : zs_S} (hJ : zs_J ad) (had : ∀ o, 1 ≤ o → o ≤ zd_M 2 → ad o = b + (o - 1)) (hA : ∀ q, b ≤ q → A q) : Met l y_S_init (.code y_S_init prog_1_method_1_code 1 none :: zd_ww) { frames := 3, cells := 138, slots := 50736, locals := 71 } (va_Pc [.ref (ad 1)] (zk_U 2 D cA ad A b 1 σ)) (zk_Q 2 D cA ad A b 139 (zk_f_S_init_1 σ)) 138 50736 A := by
  refine Met.ofW (cc := prog_1_method_1_code) (maxL := 1) (ret := none) (by decide) rfl ?_
  intro p e s m args below meth c s₁ B hml hv
  obtain ⟨hargs, hP, hK, hD, hZ, hz, hd, hO⟩ := hv
  have G : zk_G 2 p s m args c prog_1_method_1_code 1 "ScheduleCheck" D cA ad A b := ⟨⟨B.exec, B.bytes, hml, findClass_of_methodNamed B.named, fun w h => atoms_spec B.pre w (List.mem_cons_of_mem _ h)⟩, hK, hJ, hZ, had, hA, hO⟩
  have hw : zk_I 2 D cA ad A s b 1 σ s.heap [] := ⟨hP, hD, va_S.rf, hz, hd⟩
  have hx := G.1.1
  have hb := G.1.2.1
  have hown := G.1.2.2.2.1
  have hts := G.1.2.2.2.2
  have hr := B.returns
  have hlocks := B.notSynchronized
  have hin : meth.name = "<init>" := (name_of_methodNamed B.named B.method).1
  have he : entryFrame m args 1 = F0 m 0 ((lg_sl [.ref (ad 1)] ++ List.replicate (1 - (lg_sl [.ref (ad 1)]).length) Slot.unset).toArray) [] := by rw [hargs]; exact lg_entry_eq m _ 1
  have hl := lv_entry [.ref (ad 1)] (n := 1) (Nat.le_of_ble_eq_true rfl)
  rw [he]
  generalize (lg_sl [.ref (ad 1)] ++ List.replicate (1 - (lg_sl [.ref (ad 1)]).length) Slot.unset).toArray = ls at hl
  have hl : lv_has ls 1 [(0, .ref (ad 1))] := hl
  obtain ⟨RR, hR⟩ : ∃ z, z = (headSpec (.code y_S_init prog_1_method_1_code 1 none :: zd_ww) { frames := 3, cells := 138, slots := 50736, locals := 71 }).room := ⟨_, rfl⟩
  rw [← hR]
  obtain ⟨QQ, hQ⟩ : ∃ z, z = MQ below (zk_Q 2 D cA ad A b 139 (zk_f_S_init_1 σ)) args s 138 50736 A := ⟨_, rfl⟩
  rw [← hQ]
  have hR1 : 3 ≤ RR.frames := by rw [hR]; exact Nat.le_refl _
  have hR2 : 71 ≤ RR.locals := by rw [hR]; exact Nat.le_refl _
  have hR3 : 138 ≤ RR.cells := by rw [hR]; exact Nat.le_refl _
  have hR4 : 50736 ≤ RR.slots := by rw [hR]; exact Nat.le_refl _
  generalize s.heap = H at hw ⊢
  generalize ([] : List Loc) = locs at hw ⊢
  refine lv_aload_n hx hb d_S_init_0 rfl (lv_at hl 0 rfl) ?_
  refine W.objInit hx hb hown (hts _ zn2_0) (hts _ zn2_1) (hts _ zn2_2) rfl (by rw [hml]; exact hl.1) rfl d_S_init_1 (Nat.le_trans (by decide) hR1) (Nat.le_trans (Nat.le_of_ble_eq_true rfl) hR2) ?_
  refine W.eq (g2 := F0 m 4 ls []) rfl ?_
  refine lv_aload_n hx hb d_S_init_4 rfl (lv_at hl 0 rfl) ?_
  refine lv_sipush (v := 1600) hx hb d_S_init_5 (by decide) ?_
  refine zk_newa (atype := .byte) (t := 1) (N := 1600) (n := 1600) G hw zn2_3 rfl (by decide) rfl (by decide) (by decide) (by decide) (by decide) (Nat.le_trans (by decide) hR3) (Nat.le_trans (by decide) hR4) d_S_init_8 (fun H hw => ?_)
  refine W.widen (k := 1) (n := 1600) (by decide) (by decide) ?_
  refine zk_putF (ci := 0) G hw 1 0 (by decide) (by decide) zi_0 t_zd0 t_zd0_ok n_zd0 rfl rfl rfl (by decide) rfl zn2_4 (fun _ h => h) rfl hin rfl (x := 2) (by decide) (t_zd0_ok 0 (by decide)) rfl rfl d_S_init_10 (fun H locs hw => ?_)
  refine lv_aload_n hx hb d_S_init_13 rfl (lv_at hl 0 rfl) ?_
  refine zk_new (ci := 1) G hw zi_1 t_zd1 t_zd1_ok rfl rfl rfl (by decide) (zh_1 ad _) zn2_5 zn2_6 zn2_7 (Nat.le_trans (by decide) hR3) (Nat.le_trans (by decide) hR4) d_S_init_14 (fun H hw => ?_)
  refine W.widen (k := 2) (n := 1605) (by decide) (by decide) ?_
  refine lv_dup hx hb d_S_init_17 rfl ?_
  refine zk_call (rest := [.ref (ad 3), .ref (ad 1)]) (o := 3) G hw [] (zk_Tokens_init_3 hJ had hA) (cwI 0 hts (zs_gC zn2_15) rfl rfl rfl (hts _ zn2_7) (hts _ zn2_16) (hts _ zn2_17) rfl (by decide +kernel) ⟨Nat.le_trans (by decide) hR1, Nat.le_trans (by decide) hR2⟩) rfl hl.1 (Nat.le_of_ble_eq_true rfl) d_S_init_18 ⟨Nat.le_trans (by decide) hR3, Nat.le_trans (by decide) hR4⟩ (fun H locs hw => ?_)
  refine W.widen (k := 5) (n := 6408) (by decide) (by decide) ?_
  refine zk_putF (ci := 0) G hw 1 2 (by decide) (by decide) zi_0 t_zd0 t_zd0_ok n_zd0 rfl rfl rfl (by decide) rfl zn2_18 (fun _ h => h) rfl hin rfl (x := 3) (by decide) (t_zd0_ok 2 (by decide)) rfl rfl d_S_init_21 (fun H locs hw => ?_)
  refine lv_aload_n hx hb d_S_init_24 rfl (lv_at hl 0 rfl) ?_
  refine zk_new (ci := 2) G hw zi_2 t_zd2 t_zd2_ok rfl rfl rfl (by decide) (zh_2 ad _) zn2_19 zn2_20 zn2_21 (Nat.le_trans (by decide) hR3) (Nat.le_trans (by decide) hR4) d_S_init_25 (fun H hw => ?_)
  refine W.widen (k := 6) (n := 6419) (by decide) (by decide) ?_
  refine lv_dup hx hb d_S_init_28 rfl ?_
  refine zk_call (rest := [.ref (ad 7), .ref (ad 1)]) (o := 7) G hw [] (zk_Parser_init_7 hJ had hA) (cwI 0 hts (zs_gC zn2_25) rfl rfl rfl (hts _ zn2_21) (hts _ zn2_26) (hts _ zn2_27) rfl (by decide +kernel) ⟨Nat.le_trans (by decide) hR1, Nat.le_trans (by decide) hR2⟩) rfl hl.1 (Nat.le_of_ble_eq_true rfl) d_S_init_29 ⟨Nat.le_trans (by decide) hR3, Nat.le_trans (by decide) hR4⟩ (fun H locs hw => ?_)
  refine W.widen (k := 8) (n := 6449) (by decide) (by decide) ?_
  refine zk_putF (ci := 0) G hw 1 3 (by decide) (by decide) zi_0 t_zd0 t_zd0_ok n_zd0 rfl rfl rfl (by decide) rfl zn2_28 (fun _ h => h) rfl hin rfl (x := 7) (by decide) (t_zd0_ok 3 (by decide)) rfl rfl d_S_init_32 (fun H locs hw => ?_)
  refine lv_aload_n hx hb d_S_init_35 rfl (lv_at hl 0 rfl) ?_
  refine zk_new (ci := 3) G hw zi_3 t_zd3 t_zd3_ok rfl rfl rfl (by decide) (zh_3 ad _) zn2_29 zn2_30 zn2_31 (Nat.le_trans (by decide) hR3) (Nat.le_trans (by decide) hR4) d_S_init_36 (fun H hw => ?_)
  refine W.widen (k := 9) (n := 6461) (by decide) (by decide) ?_
  refine lv_dup hx hb d_S_init_39 rfl ?_
  refine zk_call (rest := [.ref (ad 10), .ref (ad 1)]) (o := 10) G hw [] (zk_States_init_10 hJ had hA) (cwI 0 hts (zs_gC zn2_42) rfl rfl rfl (hts _ zn2_31) (hts _ zn2_43) (hts _ zn2_44) rfl (by decide +kernel) ⟨Nat.le_trans (by decide) hR1, Nat.le_trans (by decide) hR2⟩) rfl hl.1 (Nat.le_of_ble_eq_true rfl) d_S_init_40 ⟨Nat.le_trans (by decide) hR3, Nat.le_trans (by decide) hR4⟩ (fun H locs hw => ?_)
  refine W.widen (k := 18) (n := 42720) (by decide) (by decide) ?_
  refine zk_putF (ci := 0) G hw 1 4 (by decide) (by decide) zi_0 t_zd0 t_zd0_ok n_zd0 rfl rfl rfl (by decide) rfl zn2_45 (fun _ h => h) rfl hin rfl (x := 10) (by decide) (t_zd0_ok 4 (by decide)) rfl rfl d_S_init_43 (fun H locs hw => ?_)
  refine lv_aload_n hx hb d_S_init_46 rfl (lv_at hl 0 rfl) ?_
  refine zk_new (ci := 5) G hw zi_5 t_zd5 t_zd5_ok rfl rfl rfl (by decide) (zh_5 ad _) zn2_46 zn2_47 zn2_48 (Nat.le_trans (by decide) hR3) (Nat.le_trans (by decide) hR4) d_S_init_47 (fun H hw => ?_)
  refine W.widen (k := 19) (n := 42729) (by decide) (by decide) ?_
  refine lv_dup hx hb d_S_init_50 rfl ?_
  refine zk_call (rest := [.ref (ad 20), .ref (ad 1)]) (o := 20) G hw [] (zk_Program_init_20 hJ had hA) (cwI 0 hts (zs_gC zn2_75) rfl rfl rfl (hts _ zn2_48) (hts _ zn2_76) (hts _ zn2_77) rfl (by decide +kernel) ⟨Nat.le_trans (by decide) hR1, Nat.le_trans (by decide) hR2⟩) rfl hl.1 (Nat.le_of_ble_eq_true rfl) d_S_init_51 ⟨Nat.le_trans (by decide) hR3, Nat.le_trans (by decide) hR4⟩ (fun H locs hw => ?_)
  refine W.widen (k := 77) (n := 46599) (by decide) (by decide) ?_
  refine zk_putr (ci := 0) G hw 1 6 (by decide) (by decide) zi_0 t_zd0 t_zd0_ok n_zd0 rfl rfl rfl (by decide) rfl zn2_78 (fun _ h => h) rfl  (x := 20) (by decide) (t_zd0_ok 6 (by decide)) rfl rfl d_S_init_54 (fun H locs hw => ?_)
  refine lv_aload_n hx hb d_S_init_57 rfl (lv_at hl 0 rfl) ?_
  refine zk_new (ci := 5) G hw zi_5 t_zd5 t_zd5_ok rfl rfl rfl (by decide) (zh_5 ad _) zn2_46 zn2_47 zn2_48 (Nat.le_trans (by decide) hR3) (Nat.le_trans (by decide) hR4) d_S_init_58 (fun H hw => ?_)
  refine W.widen (k := 78) (n := 46608) (by decide) (by decide) ?_
  refine lv_dup hx hb d_S_init_61 rfl ?_
  refine zk_call (rest := [.ref (ad 79), .ref (ad 1)]) (o := 79) G hw [] (zk_Program_init_79 hJ had hA) (cwI 0 hts (zs_gC zn2_75) rfl rfl rfl (hts _ zn2_48) (hts _ zn2_76) (hts _ zn2_77) rfl (by decide +kernel) ⟨Nat.le_trans (by decide) hR1, Nat.le_trans (by decide) hR2⟩) rfl hl.1 (Nat.le_of_ble_eq_true rfl) d_S_init_62 ⟨Nat.le_trans (by decide) hR3, Nat.le_trans (by decide) hR4⟩ (fun H locs hw => ?_)
  refine W.widen (k := 136) (n := 50478) (by decide) (by decide) ?_
  refine zk_putr (ci := 0) G hw 1 7 (by decide) (by decide) zi_0 t_zd0 t_zd0_ok n_zd0 rfl rfl rfl (by decide) rfl zn2_79 (fun _ h => h) rfl  (x := 79) (by decide) (t_zd0_ok 7 (by decide)) rfl rfl d_S_init_65 (fun H locs hw => ?_)
  refine lv_aload_n hx hb d_S_init_68 rfl (lv_at hl 0 rfl) ?_
  refine zk_new (ci := 4) G hw zi_4 t_zd4 t_zd4_ok rfl rfl rfl (by decide) (zh_4 ad _) zn2_80 zn2_81 zn2_82 (Nat.le_trans (by decide) hR3) (Nat.le_trans (by decide) hR4) d_S_init_69 (fun H hw => ?_)
  refine W.widen (k := 137) (n := 50480) (by decide) (by decide) ?_
  refine lv_dup hx hb d_S_init_72 rfl ?_
  refine lv_aload_n hx hb d_S_init_73 rfl (lv_at hl 0 rfl) ?_
  refine zk_get (ci := 0) G hw 1 4 (by decide) zi_0 rfl rfl rfl (by decide) zn2_45 (fun _ h => h) (q := 10) rfl rfl (by decide) d_S_init_74 ?_
  refine lv_aload_n hx hb d_S_init_77 rfl (lv_at hl 0 rfl) ?_
  refine zk_get (ci := 0) G hw 1 6 (by decide) zi_0 rfl rfl rfl (by decide) zn2_78 (fun _ h => h) (q := 20) rfl rfl (by decide) d_S_init_78 ?_
  refine zk_call (rest := [.ref (ad 138), .ref (ad 1)]) (o := 138) G hw [.ref (ad 10), .ref (ad 20)] (zk_Explorer_init_138 hJ had hA) (cwI 2 hts (zs_gC zn2_86) rfl rfl rfl (hts _ zn2_82) (hts _ zn2_87) (hts _ zn2_88) rfl (by decide +kernel) ⟨Nat.le_trans (by decide) hR1, Nat.le_trans (by decide) hR2⟩) rfl hl.1 (Nat.le_of_ble_eq_true rfl) d_S_init_81 ⟨Nat.le_trans (by decide) hR3, Nat.le_trans (by decide) hR4⟩ (fun H locs hw => ?_)
  refine W.widen (k := 137) (n := 50480) (by decide) (by decide) ?_
  refine zk_putF (ci := 0) G hw 1 5 (by decide) (by decide) zi_0 t_zd0 t_zd0_ok n_zd0 rfl rfl rfl (by decide) rfl zn2_89 (fun _ h => h) rfl hin rfl (x := 138) (by decide) (t_zd0_ok 5 (by decide)) rfl rfl d_S_init_84 (fun H locs hw => ?_)
  refine lv_aload_n hx hb d_S_init_87 rfl (lv_at hl 0 rfl) ?_
  refine lv_sipush (v := 256) hx hb d_S_init_88 (by decide) ?_
  refine zk_newa (atype := .byte) (t := 1) (N := 256) (n := 256) G hw zn2_3 rfl (by decide) rfl (by decide) (by decide) (by decide) (by decide) (Nat.le_trans (by decide) hR3) (Nat.le_trans (by decide) hR4) d_S_init_91 (fun H hw => ?_)
  refine W.widen (k := 138) (n := 50736) (by decide) (by decide) ?_
  refine zk_putF (ci := 0) G hw 1 8 (by decide) (by decide) zi_0 t_zd0 t_zd0_ok n_zd0 rfl rfl rfl (by decide) rfl zn2_90 (fun _ h => h) rfl hin rfl (x := 139) (by decide) (t_zd0_ok 8 (by decide)) rfl rfl d_S_init_93 (fun H locs hw => ?_)
  exact zk_vret G hw hr hlocks hQ d_S_init_96
