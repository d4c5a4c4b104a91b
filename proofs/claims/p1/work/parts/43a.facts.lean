abbrev zu_P : Cond := Jvm.Cond.and given_1 narrow_1
abbrev zu_t (i : Nat) : Term := .static "ScheduleCheck$Token" (zd_tn.getD i "") "LScheduleCheck$Token;"
abbrev zu_k (i : Nat) : Term := .static "ScheduleCheck$Kind" (zd_kn.getD i "") "LScheduleCheck$Kind;"
abbrev zu_e : Term := .static "ScheduleCheck$Token" "EVERY" "[LScheduleCheck$Token;"
abbrev zu_m : Term := .static "ScheduleCheck$1" "$SwitchMap$ScheduleCheck$Token" "[I"
abbrev zu_n : Term := .static "ScheduleCheck$1" "$SwitchMap$ScheduleCheck$Kind" "[I"
abbrev zu_s (i : Nat) : Term := .string "ScheduleCheckModel" (zd_sn.getD i (0, "")).1
abbrev zu_v (i : Nat) : Term := .field (zu_s i) "java/lang/String" "value" "[B"
theorem zx_te : ∀ i, i < 37 → Cond.exactly (zu_t i) "ScheduleCheck$Token" ∈ flatC zu_P := fun i hi => List.mem_of_getElem? ((by decide +kernel : ∀ i, i < 37 → (flatC zu_P)[([6, 11, 58, 63, 171, 68, 88, 93, 103, 228, 234, 239, 244, 182, 249, 254, 202, 259, 264, 98, 108, 156, 161, 83, 73, 166, 269, 274, 279, 284, 289, 294, 299, 304, 309, 78, 314] : List Nat).getD i 0]? = some (Cond.exactly (zu_t i) "ScheduleCheck$Token")) i hi)
theorem zx_tf0 : ∀ i, i < 37 → Cond.eq (.field (zu_t i) "java/lang/Enum" "ordinal" "I") (.int ((zd_tf.getD 0 ("", "", "", [])).2.2.2.getD i 0)) ∈ flatC zu_P := fun i hi => List.mem_of_getElem? ((by decide +kernel : ∀ i, i < 37 → (flatC zu_P)[([7, 12, 59, 64, 172, 69, 89, 94, 104, 229, 235, 240, 245, 183, 250, 255, 203, 260, 265, 99, 109, 157, 162, 84, 74, 167, 270, 275, 280, 285, 290, 295, 300, 305, 310, 79, 315] : List Nat).getD i 0]? = some (Cond.eq (.field (zu_t i) "java/lang/Enum" "ordinal" "I") (.int ((zd_tf.getD 0 ("", "", "", [])).2.2.2.getD i 0)))) i hi)
