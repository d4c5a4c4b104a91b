/-! THE CLAIM OUT OF ONE WALK OF THE LAW'S BODY. Your part is whole_start (and what it stands on); all else here is the same for every law, but numbers. -/
def R_law : String := "ScheduleCheckLaw"
def lw_P (b : Addr) (xs : List Int32) (args : Array Value) (s : State) : Prop := args = #[.ref b] ∧ s.IntsAt b xs ∧ xs.length ≤ 6 ∧ (Jvm.Cond.and given_1 narrow_1).before args s = true
def lw_Q (_ : Array Value) (s : State) (o : Outcome) (t : State) : Prop := o = .returned (some (.int 1)) ∧ Framed s o t [] 600000 7302250
def lw_Z (below : List Frame) (a : Array Value) (s : State) : State → Prop := fun t => ∃ o, t.status = .running ∧ Ended t below o ∧ lw_Q a s o t
/-- the law's own end, with 1 on the stack, nothing written that was there before, its room as the claim has it -/
theorem lw_ret {p : Program} {l : Launch} {e : Env} {s : State} {m : MethodId} {below : List Frame} {meth : Method} {c : Code} {b : Nat} (hx : p.tables.exec = Jvm.exec) (hb : c.code = code) (hr : meth.sig.returnType = ret) (hlocks : meth.locks = false) {pc : Nat} {H : Heap} {ls : Array Slot} (hdg : decode code pc = .ok (.ireturn, 1)) : W p l e room_1 s m #[Value.ref b] below meth c H [] 600000 7302250 (lw_Z below #[Value.ref b] s) (F0 m pc ls [.int 1]) := by
  intro T hT X
  obtain ⟨fs, hret, hrun, hended, hW, hframe⟩ := X.leave (v := some (.int 1)) (hlocks := hlocks) (fun h => by rw [hr] at h; cases h)
  have hmeth' : T.vm.method? m = some meth := X.method'
  refine ⟨T.setFrames fs, ?_, .returned (some (.int 1)), hrun, hended, rfl, ⟨_, rfl⟩, hW, hframe⟩
  jvm_step X.here [X.here.top, hx, hb, hdg, hmeth', hr, ret, narrow_b1]
  (try refine ⟨rfl, ?_⟩); (try refine ⟨rfl, ?_⟩)
  first | (intro acts; rw [hret _ acts rfl rfl rfl]) | rw [hret _ _ rfl rfl rfl]
  exact Steps.refl _
/-- what holds at the law's entry: the machine, the code, the tables' words (any of lw_tbl by 'hts w (by decide +kernel)'), the script of L ints xs at the cell b, what the Statement gives of the start (any of its parts by flat_of_before) -/
def lw_At (p : Program) (s : State) (m : MethodId) (meth : Method) (c : Code) (b L : Nat) (xs : Nat → Int32) : Prop :=
  p.tables.exec = Jvm.exec ∧ c.code = code ∧ meth.sig.returnType = ret ∧ c.maxLocals = 4 ∧ s.vm.findClass R_law = some m.cls ∧ (∀ w ∈ lw_tbl, w.before #[Value.ref b] s = true) ∧ va_X b L xs s s.heap ∧ b < s.heap.size ∧ meth.locks = false ∧ (Jvm.Cond.and given_1 narrow_1).before #[Value.ref b] s = true
theorem zn5_0 : Cond.code ⟨"ScheduleCheck","feed","(IIIII)I"⟩ prog_1_method_2_code 6 (Option.some FieldType.int) ∈ zd_ww := zd_me 330 (by decide +kernel) (by decide +kernel)
theorem zn5_1 : Cond.methodLink "ScheduleCheckLaw" 13 ⟨"ScheduleCheck","feed","(IIIII)I"⟩ ∈ zd_ww := zd_me 327 (by decide +kernel) (by decide +kernel)
theorem zn5_2 : Cond.instanceMethod ⟨"ScheduleCheck","feed","(IIIII)I"⟩ ∈ zd_ww := zd_me 328 (by decide +kernel) (by decide +kernel)
theorem zn5_3 : Cond.selects "ScheduleCheck" ⟨"ScheduleCheck","feed","(IIIII)I"⟩ ⟨"ScheduleCheck","feed","(IIIII)I"⟩ ∈ zd_ww := zd_me 329 (by decide +kernel) (by decide +kernel)
theorem zn5_4 : Cond.initialized "ScheduleCheck" ∈ zd_ww := zd_me 1 (by decide +kernel) (by decide +kernel)
theorem zn5_5 : Cond.code ⟨"ScheduleCheckModel","feed","(IIIII)I"⟩ prog_13_method_3_code 8 (Option.some FieldType.int) ∈ zd_ww := zd_me 984 (by decide +kernel) (by decide +kernel)
theorem zn5_6 : Cond.methodLink "ScheduleCheckLaw" 17 ⟨"ScheduleCheckModel","feed","(IIIII)I"⟩ ∈ zd_ww := zd_me 981 (by decide +kernel) (by decide +kernel)
theorem zn5_7 : Cond.instanceMethod ⟨"ScheduleCheckModel","feed","(IIIII)I"⟩ ∈ zd_ww := zd_me 982 (by decide +kernel) (by decide +kernel)
theorem zn5_8 : Cond.selects "ScheduleCheckModel" ⟨"ScheduleCheckModel","feed","(IIIII)I"⟩ ⟨"ScheduleCheckModel","feed","(IIIII)I"⟩ ∈ zd_ww := zd_me 983 (by decide +kernel) (by decide +kernel)
theorem zn5_9 : Cond.initialized "ScheduleCheckModel" ∈ zd_ww := zd_me 11 (by decide +kernel) (by decide +kernel)
theorem zn5_10 : Cond.code ⟨"ScheduleCheck","end","(I)I"⟩ prog_1_method_4_code 2 (Option.some FieldType.int) ∈ zd_ww := zd_me 338 (by decide +kernel) (by decide +kernel)
theorem zn5_11 : Cond.methodLink "ScheduleCheckLaw" 18 ⟨"ScheduleCheck","end","(I)I"⟩ ∈ zd_ww := zd_me 335 (by decide +kernel) (by decide +kernel)
theorem zn5_12 : Cond.instanceMethod ⟨"ScheduleCheck","end","(I)I"⟩ ∈ zd_ww := zd_me 336 (by decide +kernel) (by decide +kernel)
theorem zn5_13 : Cond.selects "ScheduleCheck" ⟨"ScheduleCheck","end","(I)I"⟩ ⟨"ScheduleCheck","end","(I)I"⟩ ∈ zd_ww := zd_me 337 (by decide +kernel) (by decide +kernel)
theorem zn5_14 : Cond.code ⟨"ScheduleCheckModel","end","(I)I"⟩ prog_13_method_4_code 2 (Option.some FieldType.int) ∈ zd_ww := zd_me 988 (by decide +kernel) (by decide +kernel)
theorem zn5_15 : Cond.methodLink "ScheduleCheckLaw" 22 ⟨"ScheduleCheckModel","end","(I)I"⟩ ∈ zd_ww := zd_me 985 (by decide +kernel) (by decide +kernel)
theorem zn5_16 : Cond.instanceMethod ⟨"ScheduleCheckModel","end","(I)I"⟩ ∈ zd_ww := zd_me 986 (by decide +kernel) (by decide +kernel)
theorem zn5_17 : Cond.selects "ScheduleCheckModel" ⟨"ScheduleCheckModel","end","(I)I"⟩ ⟨"ScheduleCheckModel","end","(I)I"⟩ ∈ zd_ww := zd_me 987 (by decide +kernel) (by decide +kernel)
theorem zn5_18 : Cond.code ⟨"ScheduleCheck","check","()I"⟩ prog_1_method_5_code 3 (Option.some FieldType.int) ∈ zd_ww := zd_me 342 (by decide +kernel) (by decide +kernel)
theorem zn5_19 : Cond.methodLink "ScheduleCheckLaw" 23 ⟨"ScheduleCheck","check","()I"⟩ ∈ zd_ww := zd_me 339 (by decide +kernel) (by decide +kernel)
theorem zn5_20 : Cond.instanceMethod ⟨"ScheduleCheck","check","()I"⟩ ∈ zd_ww := zd_me 340 (by decide +kernel) (by decide +kernel)
theorem zn5_21 : Cond.selects "ScheduleCheck" ⟨"ScheduleCheck","check","()I"⟩ ⟨"ScheduleCheck","check","()I"⟩ ∈ zd_ww := zd_me 341 (by decide +kernel) (by decide +kernel)
theorem zn5_22 : Cond.code ⟨"ScheduleCheckModel","check","()I"⟩ prog_13_method_38_code 3 (Option.some FieldType.int) ∈ zd_ww := zd_me 995 (by decide +kernel) (by decide +kernel)
theorem zn5_23 : Cond.methodLink "ScheduleCheckLaw" 27 ⟨"ScheduleCheckModel","check","()I"⟩ ∈ zd_ww := zd_me 992 (by decide +kernel) (by decide +kernel)
theorem zn5_24 : Cond.instanceMethod ⟨"ScheduleCheckModel","check","()I"⟩ ∈ zd_ww := zd_me 993 (by decide +kernel) (by decide +kernel)
theorem zn5_25 : Cond.selects "ScheduleCheckModel" ⟨"ScheduleCheckModel","check","()I"⟩ ⟨"ScheduleCheckModel","check","()I"⟩ ∈ zd_ww := zd_me 994 (by decide +kernel) (by decide +kernel)
theorem zn5_26 : Cond.code ⟨"ScheduleCheck","count","(I)I"⟩ prog_1_method_6_code 2 (Option.some FieldType.int) ∈ zd_ww := zd_me 705 (by decide +kernel) (by decide +kernel)
theorem zn5_27 : Cond.methodLink "ScheduleCheckLaw" 28 ⟨"ScheduleCheck","count","(I)I"⟩ ∈ zd_ww := zd_me 702 (by decide +kernel) (by decide +kernel)
theorem zn5_28 : Cond.instanceMethod ⟨"ScheduleCheck","count","(I)I"⟩ ∈ zd_ww := zd_me 703 (by decide +kernel) (by decide +kernel)
theorem zn5_29 : Cond.selects "ScheduleCheck" ⟨"ScheduleCheck","count","(I)I"⟩ ⟨"ScheduleCheck","count","(I)I"⟩ ∈ zd_ww := zd_me 704 (by decide +kernel) (by decide +kernel)
theorem zn5_30 : Cond.code ⟨"ScheduleCheckModel","count","(I)I"⟩ prog_13_method_41_code 7 (Option.some FieldType.int) ∈ zd_ww := zd_me 1219 (by decide +kernel) (by decide +kernel)
theorem zn5_31 : Cond.methodLink "ScheduleCheckLaw" 31 ⟨"ScheduleCheckModel","count","(I)I"⟩ ∈ zd_ww := zd_me 1216 (by decide +kernel) (by decide +kernel)
theorem zn5_32 : Cond.instanceMethod ⟨"ScheduleCheckModel","count","(I)I"⟩ ∈ zd_ww := zd_me 1217 (by decide +kernel) (by decide +kernel)
theorem zn5_33 : Cond.selects "ScheduleCheckModel" ⟨"ScheduleCheckModel","count","(I)I"⟩ ⟨"ScheduleCheckModel","count","(I)I"⟩ ∈ zd_ww := zd_me 1218 (by decide +kernel) (by decide +kernel)
theorem zn5_34 : Cond.code ⟨"ScheduleCheck","first","(I)I"⟩ prog_1_method_8_code 3 (Option.some FieldType.int) ∈ zd_ww := zd_me 733 (by decide +kernel) (by decide +kernel)
theorem zn5_35 : Cond.methodLink "ScheduleCheckLaw" 32 ⟨"ScheduleCheck","first","(I)I"⟩ ∈ zd_ww := zd_me 730 (by decide +kernel) (by decide +kernel)
theorem zn5_36 : Cond.instanceMethod ⟨"ScheduleCheck","first","(I)I"⟩ ∈ zd_ww := zd_me 731 (by decide +kernel) (by decide +kernel)
theorem zn5_37 : Cond.selects "ScheduleCheck" ⟨"ScheduleCheck","first","(I)I"⟩ ⟨"ScheduleCheck","first","(I)I"⟩ ∈ zd_ww := zd_me 732 (by decide +kernel) (by decide +kernel)
theorem zn5_38 : Cond.code ⟨"ScheduleCheckModel","first","(I)I"⟩ prog_13_method_42_code 3 (Option.some FieldType.int) ∈ zd_ww := zd_me 1231 (by decide +kernel) (by decide +kernel)
theorem zn5_39 : Cond.methodLink "ScheduleCheckLaw" 35 ⟨"ScheduleCheckModel","first","(I)I"⟩ ∈ zd_ww := zd_me 1228 (by decide +kernel) (by decide +kernel)
theorem zn5_40 : Cond.instanceMethod ⟨"ScheduleCheckModel","first","(I)I"⟩ ∈ zd_ww := zd_me 1229 (by decide +kernel) (by decide +kernel)
theorem zn5_41 : Cond.selects "ScheduleCheckModel" ⟨"ScheduleCheckModel","first","(I)I"⟩ ⟨"ScheduleCheckModel","first","(I)I"⟩ ∈ zd_ww := zd_me 1230 (by decide +kernel) (by decide +kernel)
theorem zn5_42 : Cond.code ⟨"ScheduleCheck","look","(II)I"⟩ prog_1_method_9_code 3 (Option.some FieldType.int) ∈ zd_ww := zd_me 737 (by decide +kernel) (by decide +kernel)
theorem zn5_43 : Cond.methodLink "ScheduleCheckLaw" 36 ⟨"ScheduleCheck","look","(II)I"⟩ ∈ zd_ww := zd_me 734 (by decide +kernel) (by decide +kernel)
theorem zn5_44 : Cond.instanceMethod ⟨"ScheduleCheck","look","(II)I"⟩ ∈ zd_ww := zd_me 735 (by decide +kernel) (by decide +kernel)
theorem zn5_45 : Cond.selects "ScheduleCheck" ⟨"ScheduleCheck","look","(II)I"⟩ ⟨"ScheduleCheck","look","(II)I"⟩ ∈ zd_ww := zd_me 736 (by decide +kernel) (by decide +kernel)
theorem zn5_46 : Cond.code ⟨"ScheduleCheckModel","look","(II)I"⟩ prog_13_method_44_code 3 (Option.some FieldType.int) ∈ zd_ww := zd_me 1235 (by decide +kernel) (by decide +kernel)
theorem zn5_47 : Cond.methodLink "ScheduleCheckLaw" 40 ⟨"ScheduleCheckModel","look","(II)I"⟩ ∈ zd_ww := zd_me 1232 (by decide +kernel) (by decide +kernel)
theorem zn5_48 : Cond.instanceMethod ⟨"ScheduleCheckModel","look","(II)I"⟩ ∈ zd_ww := zd_me 1233 (by decide +kernel) (by decide +kernel)
theorem zn5_49 : Cond.selects "ScheduleCheckModel" ⟨"ScheduleCheckModel","look","(II)I"⟩ ⟨"ScheduleCheckModel","look","(II)I"⟩ ∈ zd_ww := zd_me 1234 (by decide +kernel) (by decide +kernel)
theorem zn5_50 : Cond.code ⟨"ScheduleCheck","value","(II)I"⟩ prog_1_method_10_code 3 (Option.some FieldType.int) ∈ zd_ww := zd_me 746 (by decide +kernel) (by decide +kernel)
theorem zn5_51 : Cond.methodLink "ScheduleCheckLaw" 41 ⟨"ScheduleCheck","value","(II)I"⟩ ∈ zd_ww := zd_me 743 (by decide +kernel) (by decide +kernel)
theorem zn5_52 : Cond.instanceMethod ⟨"ScheduleCheck","value","(II)I"⟩ ∈ zd_ww := zd_me 744 (by decide +kernel) (by decide +kernel)
theorem zn5_53 : Cond.selects "ScheduleCheck" ⟨"ScheduleCheck","value","(II)I"⟩ ⟨"ScheduleCheck","value","(II)I"⟩ ∈ zd_ww := zd_me 745 (by decide +kernel) (by decide +kernel)
theorem zn5_54 : Cond.code ⟨"ScheduleCheckModel","value","(II)I"⟩ prog_13_method_45_code 3 (Option.some FieldType.int) ∈ zd_ww := zd_me 1243 (by decide +kernel) (by decide +kernel)
theorem zn5_55 : Cond.methodLink "ScheduleCheckLaw" 44 ⟨"ScheduleCheckModel","value","(II)I"⟩ ∈ zd_ww := zd_me 1240 (by decide +kernel) (by decide +kernel)
theorem zn5_56 : Cond.instanceMethod ⟨"ScheduleCheckModel","value","(II)I"⟩ ∈ zd_ww := zd_me 1241 (by decide +kernel) (by decide +kernel)
theorem zn5_57 : Cond.selects "ScheduleCheckModel" ⟨"ScheduleCheckModel","value","(II)I"⟩ ⟨"ScheduleCheckModel","value","(II)I"⟩ ∈ zd_ww := zd_me 1242 (by decide +kernel) (by decide +kernel)
theorem zn5_58 : Cond.code ⟨"ScheduleCheck","local","(III)I"⟩ prog_1_method_11_code 4 (Option.some FieldType.int) ∈ zd_ww := zd_me 754 (by decide +kernel) (by decide +kernel)
theorem zn5_59 : Cond.methodLink "ScheduleCheckLaw" 45 ⟨"ScheduleCheck","local","(III)I"⟩ ∈ zd_ww := zd_me 751 (by decide +kernel) (by decide +kernel)
theorem zn5_60 : Cond.instanceMethod ⟨"ScheduleCheck","local","(III)I"⟩ ∈ zd_ww := zd_me 752 (by decide +kernel) (by decide +kernel)
theorem zn5_61 : Cond.selects "ScheduleCheck" ⟨"ScheduleCheck","local","(III)I"⟩ ⟨"ScheduleCheck","local","(III)I"⟩ ∈ zd_ww := zd_me 753 (by decide +kernel) (by decide +kernel)
theorem zn5_62 : Cond.code ⟨"ScheduleCheckModel","local","(III)I"⟩ prog_13_method_47_code 4 (Option.some FieldType.int) ∈ zd_ww := zd_me 1247 (by decide +kernel) (by decide +kernel)
theorem zn5_63 : Cond.methodLink "ScheduleCheckLaw" 49 ⟨"ScheduleCheckModel","local","(III)I"⟩ ∈ zd_ww := zd_me 1244 (by decide +kernel) (by decide +kernel)
theorem zn5_64 : Cond.instanceMethod ⟨"ScheduleCheckModel","local","(III)I"⟩ ∈ zd_ww := zd_me 1245 (by decide +kernel) (by decide +kernel)
theorem zn5_65 : Cond.selects "ScheduleCheckModel" ⟨"ScheduleCheckModel","local","(III)I"⟩ ⟨"ScheduleCheckModel","local","(III)I"⟩ ∈ zd_ww := zd_me 1246 (by decide +kernel) (by decide +kernel)
theorem zn5_66 : Cond.code ⟨"ScheduleCheck","place","(II)I"⟩ prog_1_method_12_code 3 (Option.some FieldType.int) ∈ zd_ww := zd_me 763 (by decide +kernel) (by decide +kernel)
theorem zn5_67 : Cond.methodLink "ScheduleCheckLaw" 50 ⟨"ScheduleCheck","place","(II)I"⟩ ∈ zd_ww := zd_me 760 (by decide +kernel) (by decide +kernel)
theorem zn5_68 : Cond.instanceMethod ⟨"ScheduleCheck","place","(II)I"⟩ ∈ zd_ww := zd_me 761 (by decide +kernel) (by decide +kernel)
theorem zn5_69 : Cond.selects "ScheduleCheck" ⟨"ScheduleCheck","place","(II)I"⟩ ⟨"ScheduleCheck","place","(II)I"⟩ ∈ zd_ww := zd_me 762 (by decide +kernel) (by decide +kernel)
theorem zn5_70 : Cond.code ⟨"ScheduleCheckModel","place","(II)I"⟩ prog_13_method_48_code 3 (Option.some FieldType.int) ∈ zd_ww := zd_me 1255 (by decide +kernel) (by decide +kernel)
theorem zn5_71 : Cond.methodLink "ScheduleCheckLaw" 53 ⟨"ScheduleCheckModel","place","(II)I"⟩ ∈ zd_ww := zd_me 1252 (by decide +kernel) (by decide +kernel)
theorem zn5_72 : Cond.instanceMethod ⟨"ScheduleCheckModel","place","(II)I"⟩ ∈ zd_ww := zd_me 1253 (by decide +kernel) (by decide +kernel)
theorem zn5_73 : Cond.selects "ScheduleCheckModel" ⟨"ScheduleCheckModel","place","(II)I"⟩ ⟨"ScheduleCheckModel","place","(II)I"⟩ ∈ zd_ww := zd_me 1254 (by decide +kernel) (by decide +kernel)
theorem zn5_74 : Cond.code ⟨"ScheduleCheck","owner","(II)I"⟩ prog_1_method_13_code 3 (Option.some FieldType.int) ∈ zd_ww := zd_me 767 (by decide +kernel) (by decide +kernel)
theorem zn5_75 : Cond.methodLink "ScheduleCheckLaw" 54 ⟨"ScheduleCheck","owner","(II)I"⟩ ∈ zd_ww := zd_me 764 (by decide +kernel) (by decide +kernel)
theorem zn5_76 : Cond.instanceMethod ⟨"ScheduleCheck","owner","(II)I"⟩ ∈ zd_ww := zd_me 765 (by decide +kernel) (by decide +kernel)
theorem zn5_77 : Cond.selects "ScheduleCheck" ⟨"ScheduleCheck","owner","(II)I"⟩ ⟨"ScheduleCheck","owner","(II)I"⟩ ∈ zd_ww := zd_me 766 (by decide +kernel) (by decide +kernel)
theorem zn5_78 : Cond.code ⟨"ScheduleCheckModel","owner","(II)I"⟩ prog_13_method_49_code 3 (Option.some FieldType.int) ∈ zd_ww := zd_me 1259 (by decide +kernel) (by decide +kernel)
theorem zn5_79 : Cond.methodLink "ScheduleCheckLaw" 57 ⟨"ScheduleCheckModel","owner","(II)I"⟩ ∈ zd_ww := zd_me 1256 (by decide +kernel) (by decide +kernel)
theorem zn5_80 : Cond.instanceMethod ⟨"ScheduleCheckModel","owner","(II)I"⟩ ∈ zd_ww := zd_me 1257 (by decide +kernel) (by decide +kernel)
theorem zn5_81 : Cond.selects "ScheduleCheckModel" ⟨"ScheduleCheckModel","owner","(II)I"⟩ ⟨"ScheduleCheckModel","owner","(II)I"⟩ ∈ zd_ww := zd_me 1258 (by decide +kernel) (by decide +kernel)
theorem zn5_82 : Cond.code ⟨"ScheduleCheck","waits","(II)I"⟩ prog_1_method_14_code 3 (Option.some FieldType.int) ∈ zd_ww := zd_me 771 (by decide +kernel) (by decide +kernel)
theorem zn5_83 : Cond.methodLink "ScheduleCheckLaw" 58 ⟨"ScheduleCheck","waits","(II)I"⟩ ∈ zd_ww := zd_me 768 (by decide +kernel) (by decide +kernel)
theorem zn5_84 : Cond.instanceMethod ⟨"ScheduleCheck","waits","(II)I"⟩ ∈ zd_ww := zd_me 769 (by decide +kernel) (by decide +kernel)
theorem zn5_85 : Cond.selects "ScheduleCheck" ⟨"ScheduleCheck","waits","(II)I"⟩ ⟨"ScheduleCheck","waits","(II)I"⟩ ∈ zd_ww := zd_me 770 (by decide +kernel) (by decide +kernel)
theorem zn5_86 : Cond.code ⟨"ScheduleCheckModel","waits","(II)I"⟩ prog_13_method_50_code 3 (Option.some FieldType.int) ∈ zd_ww := zd_me 1263 (by decide +kernel) (by decide +kernel)
theorem zn5_87 : Cond.methodLink "ScheduleCheckLaw" 61 ⟨"ScheduleCheckModel","waits","(II)I"⟩ ∈ zd_ww := zd_me 1260 (by decide +kernel) (by decide +kernel)
theorem zn5_88 : Cond.instanceMethod ⟨"ScheduleCheckModel","waits","(II)I"⟩ ∈ zd_ww := zd_me 1261 (by decide +kernel) (by decide +kernel)
theorem zn5_89 : Cond.selects "ScheduleCheckModel" ⟨"ScheduleCheckModel","waits","(II)I"⟩ ⟨"ScheduleCheckModel","waits","(II)I"⟩ ∈ zd_ww := zd_me 1262 (by decide +kernel) (by decide +kernel)
theorem zn5_90 : Cond.code ⟨"ScheduleCheck","next","(II)I"⟩ prog_1_method_15_code 3 (Option.some FieldType.int) ∈ zd_ww := zd_me 775 (by decide +kernel) (by decide +kernel)
theorem zn5_91 : Cond.methodLink "ScheduleCheckLaw" 62 ⟨"ScheduleCheck","next","(II)I"⟩ ∈ zd_ww := zd_me 772 (by decide +kernel) (by decide +kernel)
theorem zn5_92 : Cond.instanceMethod ⟨"ScheduleCheck","next","(II)I"⟩ ∈ zd_ww := zd_me 773 (by decide +kernel) (by decide +kernel)
theorem zn5_93 : Cond.selects "ScheduleCheck" ⟨"ScheduleCheck","next","(II)I"⟩ ⟨"ScheduleCheck","next","(II)I"⟩ ∈ zd_ww := zd_me 774 (by decide +kernel) (by decide +kernel)
theorem zn5_94 : Cond.code ⟨"ScheduleCheckModel","next","(II)I"⟩ prog_13_method_51_code 3 (Option.some FieldType.int) ∈ zd_ww := zd_me 1267 (by decide +kernel) (by decide +kernel)
theorem zn5_95 : Cond.methodLink "ScheduleCheckLaw" 65 ⟨"ScheduleCheckModel","next","(II)I"⟩ ∈ zd_ww := zd_me 1264 (by decide +kernel) (by decide +kernel)
theorem zn5_96 : Cond.instanceMethod ⟨"ScheduleCheckModel","next","(II)I"⟩ ∈ zd_ww := zd_me 1265 (by decide +kernel) (by decide +kernel)
theorem zn5_97 : Cond.selects "ScheduleCheckModel" ⟨"ScheduleCheckModel","next","(II)I"⟩ ⟨"ScheduleCheckModel","next","(II)I"⟩ ∈ zd_ww := zd_me 1266 (by decide +kernel) (by decide +kernel)
theorem zn5_98 : Cond.code ⟨"ScheduleCheck","outcome","(II)I"⟩ prog_1_method_16_code 7 (Option.some FieldType.int) ∈ zd_ww := zd_me 780 (by decide +kernel) (by decide +kernel)
theorem zn5_99 : Cond.methodLink "ScheduleCheckLaw" 66 ⟨"ScheduleCheck","outcome","(II)I"⟩ ∈ zd_ww := zd_me 777 (by decide +kernel) (by decide +kernel)
theorem zn5_100 : Cond.instanceMethod ⟨"ScheduleCheck","outcome","(II)I"⟩ ∈ zd_ww := zd_me 778 (by decide +kernel) (by decide +kernel)
theorem zn5_101 : Cond.selects "ScheduleCheck" ⟨"ScheduleCheck","outcome","(II)I"⟩ ⟨"ScheduleCheck","outcome","(II)I"⟩ ∈ zd_ww := zd_me 779 (by decide +kernel) (by decide +kernel)
theorem zn5_102 : Cond.code ⟨"ScheduleCheckModel","outcome","(II)I"⟩ prog_13_method_52_code 8 (Option.some FieldType.int) ∈ zd_ww := zd_me 1271 (by decide +kernel) (by decide +kernel)
theorem zn5_103 : Cond.methodLink "ScheduleCheckLaw" 69 ⟨"ScheduleCheckModel","outcome","(II)I"⟩ ∈ zd_ww := zd_me 1268 (by decide +kernel) (by decide +kernel)
theorem zn5_104 : Cond.instanceMethod ⟨"ScheduleCheckModel","outcome","(II)I"⟩ ∈ zd_ww := zd_me 1269 (by decide +kernel) (by decide +kernel)
theorem zn5_105 : Cond.selects "ScheduleCheckModel" ⟨"ScheduleCheckModel","outcome","(II)I"⟩ ⟨"ScheduleCheckModel","outcome","(II)I"⟩ ∈ zd_ww := zd_me 1270 (by decide +kernel) (by decide +kernel)
theorem zn5_106 : Cond.code ⟨"ScheduleCheck","race","(I)I"⟩ prog_1_method_18_code 3 (Option.some FieldType.int) ∈ zd_ww := zd_me 791 (by decide +kernel) (by decide +kernel)
theorem zn5_107 : Cond.methodLink "ScheduleCheckLaw" 70 ⟨"ScheduleCheck","race","(I)I"⟩ ∈ zd_ww := zd_me 788 (by decide +kernel) (by decide +kernel)
theorem zn5_108 : Cond.instanceMethod ⟨"ScheduleCheck","race","(I)I"⟩ ∈ zd_ww := zd_me 789 (by decide +kernel) (by decide +kernel)
theorem zn5_109 : Cond.selects "ScheduleCheck" ⟨"ScheduleCheck","race","(I)I"⟩ ⟨"ScheduleCheck","race","(I)I"⟩ ∈ zd_ww := zd_me 790 (by decide +kernel) (by decide +kernel)
theorem zn5_110 : Cond.code ⟨"ScheduleCheckModel","race","(I)I"⟩ prog_13_method_54_code 7 (Option.some FieldType.int) ∈ zd_ww := zd_me 1281 (by decide +kernel) (by decide +kernel)
theorem zn5_111 : Cond.methodLink "ScheduleCheckLaw" 73 ⟨"ScheduleCheckModel","race","(I)I"⟩ ∈ zd_ww := zd_me 1278 (by decide +kernel) (by decide +kernel)
theorem zn5_112 : Cond.instanceMethod ⟨"ScheduleCheckModel","race","(I)I"⟩ ∈ zd_ww := zd_me 1279 (by decide +kernel) (by decide +kernel)
theorem zn5_113 : Cond.selects "ScheduleCheckModel" ⟨"ScheduleCheckModel","race","(I)I"⟩ ⟨"ScheduleCheckModel","race","(I)I"⟩ ∈ zd_ww := zd_me 1280 (by decide +kernel) (by decide +kernel)
theorem d_law_0 : decode code 0 = .ok (.new 7, 3) := by decide +kernel
theorem d_law_3 : decode code 3 = .ok (.dup, 1) := by decide +kernel
theorem d_law_4 : decode code 4 = .ok (.invokespecial 9, 3) := by decide +kernel
theorem d_law_7 : decode code 7 = .ok (.astore_n 1, 1) := by decide +kernel
theorem d_law_8 : decode code 8 = .ok (.new 10, 3) := by decide +kernel
theorem d_law_11 : decode code 11 = .ok (.dup, 1) := by decide +kernel
theorem d_law_12 : decode code 12 = .ok (.invokespecial 12, 3) := by decide +kernel
theorem d_law_15 : decode code 15 = .ok (.astore_n 2, 1) := by decide +kernel
theorem d_law_16 : decode code 16 = .ok (.iconst 0, 1) := by decide +kernel
theorem d_law_17 : decode code 17 = .ok (.istore_n 3, 1) := by decide +kernel
theorem d_law_18 : decode code 18 = .ok (.iload_n 3, 1) := by decide +kernel
theorem d_law_19 : decode code 19 = .ok (.aload_n 0, 1) := by decide +kernel
theorem d_law_20 : decode code 20 = .ok (.arraylength, 1) := by decide +kernel
theorem d_law_21 : decode code 21 = .ok (.bipush 6, 2) := by decide +kernel
theorem d_law_23 : decode code 23 = .ok (.isub, 1) := by decide +kernel
theorem d_law_24 : decode code 24 = .ok (.if_icmp .gt 528, 3) := by decide +kernel
theorem d_law_27 : decode code 27 = .ok (.aload_n 0, 1) := by decide +kernel
theorem d_law_28 : decode code 28 = .ok (.iload_n 3, 1) := by decide +kernel
theorem d_law_29 : decode code 29 = .ok (.iaload, 1) := by decide +kernel
theorem d_law_30 : decode code 30 = .ok (.bipush 15, 2) := by decide +kernel
theorem d_law_32 : decode code 32 = .ok (.iand, 1) := by decide +kernel
theorem d_law_33 : decode code 33 = .ok (.tableswitch 513 0 13 #[71, 134, 157, 170, 193, 216, 249, 282, 325, 358, 391, 424, 457, 490], 71) := by decide +kernel
theorem d_law_104 : decode code 104 = .ok (.aload_n 1, 1) := by decide +kernel
theorem d_law_105 : decode code 105 = .ok (.aload_n 0, 1) := by decide +kernel
theorem d_law_106 : decode code 106 = .ok (.iload_n 3, 1) := by decide +kernel
theorem d_law_107 : decode code 107 = .ok (.iconst 1, 1) := by decide +kernel
theorem d_law_108 : decode code 108 = .ok (.iadd, 1) := by decide +kernel
theorem d_law_109 : decode code 109 = .ok (.iaload, 1) := by decide +kernel
theorem d_law_110 : decode code 110 = .ok (.aload_n 0, 1) := by decide +kernel
theorem d_law_111 : decode code 111 = .ok (.iload_n 3, 1) := by decide +kernel
theorem d_law_112 : decode code 112 = .ok (.iconst 2, 1) := by decide +kernel
theorem d_law_113 : decode code 113 = .ok (.iadd, 1) := by decide +kernel
theorem d_law_114 : decode code 114 = .ok (.iaload, 1) := by decide +kernel
theorem d_law_115 : decode code 115 = .ok (.aload_n 0, 1) := by decide +kernel
theorem d_law_116 : decode code 116 = .ok (.iload_n 3, 1) := by decide +kernel
theorem d_law_117 : decode code 117 = .ok (.iconst 3, 1) := by decide +kernel
theorem d_law_118 : decode code 118 = .ok (.iadd, 1) := by decide +kernel
theorem d_law_119 : decode code 119 = .ok (.iaload, 1) := by decide +kernel
theorem d_law_120 : decode code 120 = .ok (.aload_n 0, 1) := by decide +kernel
theorem d_law_121 : decode code 121 = .ok (.iload_n 3, 1) := by decide +kernel
theorem d_law_122 : decode code 122 = .ok (.iconst 4, 1) := by decide +kernel
theorem d_law_123 : decode code 123 = .ok (.iadd, 1) := by decide +kernel
theorem d_law_124 : decode code 124 = .ok (.iaload, 1) := by decide +kernel
theorem d_law_125 : decode code 125 = .ok (.aload_n 0, 1) := by decide +kernel
theorem d_law_126 : decode code 126 = .ok (.iload_n 3, 1) := by decide +kernel
theorem d_law_127 : decode code 127 = .ok (.iconst 5, 1) := by decide +kernel
theorem d_law_128 : decode code 128 = .ok (.iadd, 1) := by decide +kernel
theorem d_law_129 : decode code 129 = .ok (.iaload, 1) := by decide +kernel
theorem d_law_130 : decode code 130 = .ok (.invokevirtual 13, 3) := by decide +kernel
theorem d_law_133 : decode code 133 = .ok (.aload_n 2, 1) := by decide +kernel
theorem d_law_134 : decode code 134 = .ok (.aload_n 0, 1) := by decide +kernel
theorem d_law_135 : decode code 135 = .ok (.iload_n 3, 1) := by decide +kernel
theorem d_law_136 : decode code 136 = .ok (.iconst 1, 1) := by decide +kernel
theorem d_law_137 : decode code 137 = .ok (.iadd, 1) := by decide +kernel
theorem d_law_138 : decode code 138 = .ok (.iaload, 1) := by decide +kernel
theorem d_law_139 : decode code 139 = .ok (.aload_n 0, 1) := by decide +kernel
theorem d_law_140 : decode code 140 = .ok (.iload_n 3, 1) := by decide +kernel
theorem d_law_141 : decode code 141 = .ok (.iconst 2, 1) := by decide +kernel
theorem d_law_142 : decode code 142 = .ok (.iadd, 1) := by decide +kernel
theorem d_law_143 : decode code 143 = .ok (.iaload, 1) := by decide +kernel
theorem d_law_144 : decode code 144 = .ok (.aload_n 0, 1) := by decide +kernel
theorem d_law_145 : decode code 145 = .ok (.iload_n 3, 1) := by decide +kernel
theorem d_law_146 : decode code 146 = .ok (.iconst 3, 1) := by decide +kernel
theorem d_law_147 : decode code 147 = .ok (.iadd, 1) := by decide +kernel
theorem d_law_148 : decode code 148 = .ok (.iaload, 1) := by decide +kernel
theorem d_law_149 : decode code 149 = .ok (.aload_n 0, 1) := by decide +kernel
theorem d_law_150 : decode code 150 = .ok (.iload_n 3, 1) := by decide +kernel
theorem d_law_151 : decode code 151 = .ok (.iconst 4, 1) := by decide +kernel
theorem d_law_152 : decode code 152 = .ok (.iadd, 1) := by decide +kernel
theorem d_law_153 : decode code 153 = .ok (.iaload, 1) := by decide +kernel
theorem d_law_154 : decode code 154 = .ok (.aload_n 0, 1) := by decide +kernel
theorem d_law_155 : decode code 155 = .ok (.iload_n 3, 1) := by decide +kernel
theorem d_law_156 : decode code 156 = .ok (.iconst 5, 1) := by decide +kernel
theorem d_law_157 : decode code 157 = .ok (.iadd, 1) := by decide +kernel
theorem d_law_158 : decode code 158 = .ok (.iaload, 1) := by decide +kernel
theorem d_law_159 : decode code 159 = .ok (.invokevirtual 17, 3) := by decide +kernel
theorem d_law_162 : decode code 162 = .ok (.if_icmp .eq 384, 3) := by decide +kernel
theorem d_law_165 : decode code 165 = .ok (.iconst 0, 1) := by decide +kernel
theorem d_law_166 : decode code 166 = .ok (.ireturn, 1) := by decide +kernel
theorem d_law_167 : decode code 167 = .ok (.aload_n 1, 1) := by decide +kernel
theorem d_law_168 : decode code 168 = .ok (.aload_n 0, 1) := by decide +kernel
theorem d_law_169 : decode code 169 = .ok (.iload_n 3, 1) := by decide +kernel
theorem d_law_170 : decode code 170 = .ok (.iconst 1, 1) := by decide +kernel
theorem d_law_171 : decode code 171 = .ok (.iadd, 1) := by decide +kernel
theorem d_law_172 : decode code 172 = .ok (.iaload, 1) := by decide +kernel
theorem d_law_173 : decode code 173 = .ok (.invokevirtual 18, 3) := by decide +kernel
theorem d_law_176 : decode code 176 = .ok (.aload_n 2, 1) := by decide +kernel
theorem d_law_177 : decode code 177 = .ok (.aload_n 0, 1) := by decide +kernel
theorem d_law_178 : decode code 178 = .ok (.iload_n 3, 1) := by decide +kernel
theorem d_law_179 : decode code 179 = .ok (.iconst 1, 1) := by decide +kernel
theorem d_law_180 : decode code 180 = .ok (.iadd, 1) := by decide +kernel
theorem d_law_181 : decode code 181 = .ok (.iaload, 1) := by decide +kernel
theorem d_law_182 : decode code 182 = .ok (.invokevirtual 22, 3) := by decide +kernel
theorem d_law_185 : decode code 185 = .ok (.if_icmp .eq 361, 3) := by decide +kernel
theorem d_law_188 : decode code 188 = .ok (.iconst 0, 1) := by decide +kernel
theorem d_law_189 : decode code 189 = .ok (.ireturn, 1) := by decide +kernel
theorem d_law_190 : decode code 190 = .ok (.aload_n 1, 1) := by decide +kernel
theorem d_law_191 : decode code 191 = .ok (.invokevirtual 23, 3) := by decide +kernel
theorem d_law_194 : decode code 194 = .ok (.aload_n 2, 1) := by decide +kernel
theorem d_law_195 : decode code 195 = .ok (.invokevirtual 27, 3) := by decide +kernel
theorem d_law_198 : decode code 198 = .ok (.if_icmp .eq 348, 3) := by decide +kernel
theorem d_law_201 : decode code 201 = .ok (.iconst 0, 1) := by decide +kernel
theorem d_law_202 : decode code 202 = .ok (.ireturn, 1) := by decide +kernel
theorem d_law_203 : decode code 203 = .ok (.aload_n 1, 1) := by decide +kernel
theorem d_law_204 : decode code 204 = .ok (.aload_n 0, 1) := by decide +kernel
theorem d_law_205 : decode code 205 = .ok (.iload_n 3, 1) := by decide +kernel
theorem d_law_206 : decode code 206 = .ok (.iconst 1, 1) := by decide +kernel
theorem d_law_207 : decode code 207 = .ok (.iadd, 1) := by decide +kernel
theorem d_law_208 : decode code 208 = .ok (.iaload, 1) := by decide +kernel
theorem d_law_209 : decode code 209 = .ok (.invokevirtual 28, 3) := by decide +kernel
theorem d_law_212 : decode code 212 = .ok (.aload_n 2, 1) := by decide +kernel
theorem d_law_213 : decode code 213 = .ok (.aload_n 0, 1) := by decide +kernel
theorem d_law_214 : decode code 214 = .ok (.iload_n 3, 1) := by decide +kernel
theorem d_law_215 : decode code 215 = .ok (.iconst 1, 1) := by decide +kernel
theorem d_law_216 : decode code 216 = .ok (.iadd, 1) := by decide +kernel
theorem d_law_217 : decode code 217 = .ok (.iaload, 1) := by decide +kernel
theorem d_law_218 : decode code 218 = .ok (.invokevirtual 31, 3) := by decide +kernel
theorem d_law_221 : decode code 221 = .ok (.if_icmp .eq 325, 3) := by decide +kernel
theorem d_law_224 : decode code 224 = .ok (.iconst 0, 1) := by decide +kernel
theorem d_law_225 : decode code 225 = .ok (.ireturn, 1) := by decide +kernel
theorem d_law_226 : decode code 226 = .ok (.aload_n 1, 1) := by decide +kernel
theorem d_law_227 : decode code 227 = .ok (.aload_n 0, 1) := by decide +kernel
theorem d_law_228 : decode code 228 = .ok (.iload_n 3, 1) := by decide +kernel
theorem d_law_229 : decode code 229 = .ok (.iconst 1, 1) := by decide +kernel
theorem d_law_230 : decode code 230 = .ok (.iadd, 1) := by decide +kernel
theorem d_law_231 : decode code 231 = .ok (.iaload, 1) := by decide +kernel
theorem d_law_232 : decode code 232 = .ok (.invokevirtual 32, 3) := by decide +kernel
theorem d_law_235 : decode code 235 = .ok (.aload_n 2, 1) := by decide +kernel
theorem d_law_236 : decode code 236 = .ok (.aload_n 0, 1) := by decide +kernel
theorem d_law_237 : decode code 237 = .ok (.iload_n 3, 1) := by decide +kernel
theorem d_law_238 : decode code 238 = .ok (.iconst 1, 1) := by decide +kernel
theorem d_law_239 : decode code 239 = .ok (.iadd, 1) := by decide +kernel
theorem d_law_240 : decode code 240 = .ok (.iaload, 1) := by decide +kernel
theorem d_law_241 : decode code 241 = .ok (.invokevirtual 35, 3) := by decide +kernel
theorem d_law_244 : decode code 244 = .ok (.if_icmp .eq 302, 3) := by decide +kernel
theorem d_law_247 : decode code 247 = .ok (.iconst 0, 1) := by decide +kernel
theorem d_law_248 : decode code 248 = .ok (.ireturn, 1) := by decide +kernel
theorem d_law_249 : decode code 249 = .ok (.aload_n 1, 1) := by decide +kernel
theorem d_law_250 : decode code 250 = .ok (.aload_n 0, 1) := by decide +kernel
theorem d_law_251 : decode code 251 = .ok (.iload_n 3, 1) := by decide +kernel
theorem d_law_252 : decode code 252 = .ok (.iconst 1, 1) := by decide +kernel
theorem d_law_253 : decode code 253 = .ok (.iadd, 1) := by decide +kernel
theorem d_law_254 : decode code 254 = .ok (.iaload, 1) := by decide +kernel
theorem d_law_255 : decode code 255 = .ok (.aload_n 0, 1) := by decide +kernel
theorem d_law_256 : decode code 256 = .ok (.iload_n 3, 1) := by decide +kernel
theorem d_law_257 : decode code 257 = .ok (.iconst 2, 1) := by decide +kernel
theorem d_law_258 : decode code 258 = .ok (.iadd, 1) := by decide +kernel
theorem d_law_259 : decode code 259 = .ok (.iaload, 1) := by decide +kernel
theorem d_law_260 : decode code 260 = .ok (.invokevirtual 36, 3) := by decide +kernel
theorem d_law_263 : decode code 263 = .ok (.aload_n 2, 1) := by decide +kernel
theorem d_law_264 : decode code 264 = .ok (.aload_n 0, 1) := by decide +kernel
theorem d_law_265 : decode code 265 = .ok (.iload_n 3, 1) := by decide +kernel
theorem d_law_266 : decode code 266 = .ok (.iconst 1, 1) := by decide +kernel
theorem d_law_267 : decode code 267 = .ok (.iadd, 1) := by decide +kernel
theorem d_law_268 : decode code 268 = .ok (.iaload, 1) := by decide +kernel
theorem d_law_269 : decode code 269 = .ok (.aload_n 0, 1) := by decide +kernel
theorem d_law_270 : decode code 270 = .ok (.iload_n 3, 1) := by decide +kernel
theorem d_law_271 : decode code 271 = .ok (.iconst 2, 1) := by decide +kernel
theorem d_law_272 : decode code 272 = .ok (.iadd, 1) := by decide +kernel
theorem d_law_273 : decode code 273 = .ok (.iaload, 1) := by decide +kernel
theorem d_law_274 : decode code 274 = .ok (.invokevirtual 40, 3) := by decide +kernel
theorem d_law_277 : decode code 277 = .ok (.if_icmp .eq 269, 3) := by decide +kernel
theorem d_law_280 : decode code 280 = .ok (.iconst 0, 1) := by decide +kernel
theorem d_law_281 : decode code 281 = .ok (.ireturn, 1) := by decide +kernel
theorem d_law_282 : decode code 282 = .ok (.aload_n 1, 1) := by decide +kernel
theorem d_law_283 : decode code 283 = .ok (.aload_n 0, 1) := by decide +kernel
theorem d_law_284 : decode code 284 = .ok (.iload_n 3, 1) := by decide +kernel
theorem d_law_285 : decode code 285 = .ok (.iconst 1, 1) := by decide +kernel
theorem d_law_286 : decode code 286 = .ok (.iadd, 1) := by decide +kernel
theorem d_law_287 : decode code 287 = .ok (.iaload, 1) := by decide +kernel
theorem d_law_288 : decode code 288 = .ok (.aload_n 0, 1) := by decide +kernel
theorem d_law_289 : decode code 289 = .ok (.iload_n 3, 1) := by decide +kernel
theorem d_law_290 : decode code 290 = .ok (.iconst 2, 1) := by decide +kernel
theorem d_law_291 : decode code 291 = .ok (.iadd, 1) := by decide +kernel
theorem d_law_292 : decode code 292 = .ok (.iaload, 1) := by decide +kernel
theorem d_law_293 : decode code 293 = .ok (.invokevirtual 41, 3) := by decide +kernel
theorem d_law_296 : decode code 296 = .ok (.aload_n 2, 1) := by decide +kernel
theorem d_law_297 : decode code 297 = .ok (.aload_n 0, 1) := by decide +kernel
theorem d_law_298 : decode code 298 = .ok (.iload_n 3, 1) := by decide +kernel
theorem d_law_299 : decode code 299 = .ok (.iconst 1, 1) := by decide +kernel
theorem d_law_300 : decode code 300 = .ok (.iadd, 1) := by decide +kernel
theorem d_law_301 : decode code 301 = .ok (.iaload, 1) := by decide +kernel
theorem d_law_302 : decode code 302 = .ok (.aload_n 0, 1) := by decide +kernel
theorem d_law_303 : decode code 303 = .ok (.iload_n 3, 1) := by decide +kernel
theorem d_law_304 : decode code 304 = .ok (.iconst 2, 1) := by decide +kernel
theorem d_law_305 : decode code 305 = .ok (.iadd, 1) := by decide +kernel
theorem d_law_306 : decode code 306 = .ok (.iaload, 1) := by decide +kernel
theorem d_law_307 : decode code 307 = .ok (.invokevirtual 44, 3) := by decide +kernel
theorem d_law_310 : decode code 310 = .ok (.if_icmp .eq 236, 3) := by decide +kernel
theorem d_law_313 : decode code 313 = .ok (.iconst 0, 1) := by decide +kernel
theorem d_law_314 : decode code 314 = .ok (.ireturn, 1) := by decide +kernel
theorem d_law_315 : decode code 315 = .ok (.aload_n 1, 1) := by decide +kernel
theorem d_law_316 : decode code 316 = .ok (.aload_n 0, 1) := by decide +kernel
theorem d_law_317 : decode code 317 = .ok (.iload_n 3, 1) := by decide +kernel
theorem d_law_318 : decode code 318 = .ok (.iconst 1, 1) := by decide +kernel
theorem d_law_319 : decode code 319 = .ok (.iadd, 1) := by decide +kernel
theorem d_law_320 : decode code 320 = .ok (.iaload, 1) := by decide +kernel
theorem d_law_321 : decode code 321 = .ok (.aload_n 0, 1) := by decide +kernel
theorem d_law_322 : decode code 322 = .ok (.iload_n 3, 1) := by decide +kernel
theorem d_law_323 : decode code 323 = .ok (.iconst 2, 1) := by decide +kernel
theorem d_law_324 : decode code 324 = .ok (.iadd, 1) := by decide +kernel
theorem d_law_325 : decode code 325 = .ok (.iaload, 1) := by decide +kernel
theorem d_law_326 : decode code 326 = .ok (.aload_n 0, 1) := by decide +kernel
theorem d_law_327 : decode code 327 = .ok (.iload_n 3, 1) := by decide +kernel
theorem d_law_328 : decode code 328 = .ok (.iconst 3, 1) := by decide +kernel
theorem d_law_329 : decode code 329 = .ok (.iadd, 1) := by decide +kernel
theorem d_law_330 : decode code 330 = .ok (.iaload, 1) := by decide +kernel
theorem d_law_331 : decode code 331 = .ok (.invokevirtual 45, 3) := by decide +kernel
theorem d_law_334 : decode code 334 = .ok (.aload_n 2, 1) := by decide +kernel
theorem d_law_335 : decode code 335 = .ok (.aload_n 0, 1) := by decide +kernel
theorem d_law_336 : decode code 336 = .ok (.iload_n 3, 1) := by decide +kernel
theorem d_law_337 : decode code 337 = .ok (.iconst 1, 1) := by decide +kernel
theorem d_law_338 : decode code 338 = .ok (.iadd, 1) := by decide +kernel
theorem d_law_339 : decode code 339 = .ok (.iaload, 1) := by decide +kernel
theorem d_law_340 : decode code 340 = .ok (.aload_n 0, 1) := by decide +kernel
theorem d_law_341 : decode code 341 = .ok (.iload_n 3, 1) := by decide +kernel
theorem d_law_342 : decode code 342 = .ok (.iconst 2, 1) := by decide +kernel
theorem d_law_343 : decode code 343 = .ok (.iadd, 1) := by decide +kernel
theorem d_law_344 : decode code 344 = .ok (.iaload, 1) := by decide +kernel
theorem d_law_345 : decode code 345 = .ok (.aload_n 0, 1) := by decide +kernel
theorem d_law_346 : decode code 346 = .ok (.iload_n 3, 1) := by decide +kernel
theorem d_law_347 : decode code 347 = .ok (.iconst 3, 1) := by decide +kernel
theorem d_law_348 : decode code 348 = .ok (.iadd, 1) := by decide +kernel
theorem d_law_349 : decode code 349 = .ok (.iaload, 1) := by decide +kernel
theorem d_law_350 : decode code 350 = .ok (.invokevirtual 49, 3) := by decide +kernel
theorem d_law_353 : decode code 353 = .ok (.if_icmp .eq 193, 3) := by decide +kernel
theorem d_law_356 : decode code 356 = .ok (.iconst 0, 1) := by decide +kernel
theorem d_law_357 : decode code 357 = .ok (.ireturn, 1) := by decide +kernel
theorem d_law_358 : decode code 358 = .ok (.aload_n 1, 1) := by decide +kernel
theorem d_law_359 : decode code 359 = .ok (.aload_n 0, 1) := by decide +kernel
theorem d_law_360 : decode code 360 = .ok (.iload_n 3, 1) := by decide +kernel
theorem d_law_361 : decode code 361 = .ok (.iconst 1, 1) := by decide +kernel
theorem d_law_362 : decode code 362 = .ok (.iadd, 1) := by decide +kernel
theorem d_law_363 : decode code 363 = .ok (.iaload, 1) := by decide +kernel
theorem d_law_364 : decode code 364 = .ok (.aload_n 0, 1) := by decide +kernel
theorem d_law_365 : decode code 365 = .ok (.iload_n 3, 1) := by decide +kernel
theorem d_law_366 : decode code 366 = .ok (.iconst 2, 1) := by decide +kernel
theorem d_law_367 : decode code 367 = .ok (.iadd, 1) := by decide +kernel
theorem d_law_368 : decode code 368 = .ok (.iaload, 1) := by decide +kernel
theorem d_law_369 : decode code 369 = .ok (.invokevirtual 50, 3) := by decide +kernel
theorem d_law_372 : decode code 372 = .ok (.aload_n 2, 1) := by decide +kernel
theorem d_law_373 : decode code 373 = .ok (.aload_n 0, 1) := by decide +kernel
theorem d_law_374 : decode code 374 = .ok (.iload_n 3, 1) := by decide +kernel
theorem d_law_375 : decode code 375 = .ok (.iconst 1, 1) := by decide +kernel
theorem d_law_376 : decode code 376 = .ok (.iadd, 1) := by decide +kernel
theorem d_law_377 : decode code 377 = .ok (.iaload, 1) := by decide +kernel
theorem d_law_378 : decode code 378 = .ok (.aload_n 0, 1) := by decide +kernel
theorem d_law_379 : decode code 379 = .ok (.iload_n 3, 1) := by decide +kernel
theorem d_law_380 : decode code 380 = .ok (.iconst 2, 1) := by decide +kernel
theorem d_law_381 : decode code 381 = .ok (.iadd, 1) := by decide +kernel
theorem d_law_382 : decode code 382 = .ok (.iaload, 1) := by decide +kernel
theorem d_law_383 : decode code 383 = .ok (.invokevirtual 53, 3) := by decide +kernel
theorem d_law_386 : decode code 386 = .ok (.if_icmp .eq 160, 3) := by decide +kernel
theorem d_law_389 : decode code 389 = .ok (.iconst 0, 1) := by decide +kernel
theorem d_law_390 : decode code 390 = .ok (.ireturn, 1) := by decide +kernel
theorem d_law_391 : decode code 391 = .ok (.aload_n 1, 1) := by decide +kernel
theorem d_law_392 : decode code 392 = .ok (.aload_n 0, 1) := by decide +kernel
theorem d_law_393 : decode code 393 = .ok (.iload_n 3, 1) := by decide +kernel
theorem d_law_394 : decode code 394 = .ok (.iconst 1, 1) := by decide +kernel
theorem d_law_395 : decode code 395 = .ok (.iadd, 1) := by decide +kernel
theorem d_law_396 : decode code 396 = .ok (.iaload, 1) := by decide +kernel
theorem d_law_397 : decode code 397 = .ok (.aload_n 0, 1) := by decide +kernel
theorem d_law_398 : decode code 398 = .ok (.iload_n 3, 1) := by decide +kernel
theorem d_law_399 : decode code 399 = .ok (.iconst 2, 1) := by decide +kernel
theorem d_law_400 : decode code 400 = .ok (.iadd, 1) := by decide +kernel
theorem d_law_401 : decode code 401 = .ok (.iaload, 1) := by decide +kernel
theorem d_law_402 : decode code 402 = .ok (.invokevirtual 54, 3) := by decide +kernel
theorem d_law_405 : decode code 405 = .ok (.aload_n 2, 1) := by decide +kernel
theorem d_law_406 : decode code 406 = .ok (.aload_n 0, 1) := by decide +kernel
theorem d_law_407 : decode code 407 = .ok (.iload_n 3, 1) := by decide +kernel
theorem d_law_408 : decode code 408 = .ok (.iconst 1, 1) := by decide +kernel
theorem d_law_409 : decode code 409 = .ok (.iadd, 1) := by decide +kernel
theorem d_law_410 : decode code 410 = .ok (.iaload, 1) := by decide +kernel
theorem d_law_411 : decode code 411 = .ok (.aload_n 0, 1) := by decide +kernel
theorem d_law_412 : decode code 412 = .ok (.iload_n 3, 1) := by decide +kernel
theorem d_law_413 : decode code 413 = .ok (.iconst 2, 1) := by decide +kernel
theorem d_law_414 : decode code 414 = .ok (.iadd, 1) := by decide +kernel
theorem d_law_415 : decode code 415 = .ok (.iaload, 1) := by decide +kernel
theorem d_law_416 : decode code 416 = .ok (.invokevirtual 57, 3) := by decide +kernel
theorem d_law_419 : decode code 419 = .ok (.if_icmp .eq 127, 3) := by decide +kernel
theorem d_law_422 : decode code 422 = .ok (.iconst 0, 1) := by decide +kernel
theorem d_law_423 : decode code 423 = .ok (.ireturn, 1) := by decide +kernel
theorem d_law_424 : decode code 424 = .ok (.aload_n 1, 1) := by decide +kernel
theorem d_law_425 : decode code 425 = .ok (.aload_n 0, 1) := by decide +kernel
theorem d_law_426 : decode code 426 = .ok (.iload_n 3, 1) := by decide +kernel
theorem d_law_427 : decode code 427 = .ok (.iconst 1, 1) := by decide +kernel
theorem d_law_428 : decode code 428 = .ok (.iadd, 1) := by decide +kernel
theorem d_law_429 : decode code 429 = .ok (.iaload, 1) := by decide +kernel
theorem d_law_430 : decode code 430 = .ok (.aload_n 0, 1) := by decide +kernel
theorem d_law_431 : decode code 431 = .ok (.iload_n 3, 1) := by decide +kernel
theorem d_law_432 : decode code 432 = .ok (.iconst 2, 1) := by decide +kernel
theorem d_law_433 : decode code 433 = .ok (.iadd, 1) := by decide +kernel
theorem d_law_434 : decode code 434 = .ok (.iaload, 1) := by decide +kernel
theorem d_law_435 : decode code 435 = .ok (.invokevirtual 58, 3) := by decide +kernel
theorem d_law_438 : decode code 438 = .ok (.aload_n 2, 1) := by decide +kernel
theorem d_law_439 : decode code 439 = .ok (.aload_n 0, 1) := by decide +kernel
theorem d_law_440 : decode code 440 = .ok (.iload_n 3, 1) := by decide +kernel
theorem d_law_441 : decode code 441 = .ok (.iconst 1, 1) := by decide +kernel
theorem d_law_442 : decode code 442 = .ok (.iadd, 1) := by decide +kernel
theorem d_law_443 : decode code 443 = .ok (.iaload, 1) := by decide +kernel
theorem d_law_444 : decode code 444 = .ok (.aload_n 0, 1) := by decide +kernel
theorem d_law_445 : decode code 445 = .ok (.iload_n 3, 1) := by decide +kernel
theorem d_law_446 : decode code 446 = .ok (.iconst 2, 1) := by decide +kernel
theorem d_law_447 : decode code 447 = .ok (.iadd, 1) := by decide +kernel
theorem d_law_448 : decode code 448 = .ok (.iaload, 1) := by decide +kernel
theorem d_law_449 : decode code 449 = .ok (.invokevirtual 61, 3) := by decide +kernel
theorem d_law_452 : decode code 452 = .ok (.if_icmp .eq 94, 3) := by decide +kernel
theorem d_law_455 : decode code 455 = .ok (.iconst 0, 1) := by decide +kernel
theorem d_law_456 : decode code 456 = .ok (.ireturn, 1) := by decide +kernel
theorem d_law_457 : decode code 457 = .ok (.aload_n 1, 1) := by decide +kernel
theorem d_law_458 : decode code 458 = .ok (.aload_n 0, 1) := by decide +kernel
theorem d_law_459 : decode code 459 = .ok (.iload_n 3, 1) := by decide +kernel
theorem d_law_460 : decode code 460 = .ok (.iconst 1, 1) := by decide +kernel
theorem d_law_461 : decode code 461 = .ok (.iadd, 1) := by decide +kernel
theorem d_law_462 : decode code 462 = .ok (.iaload, 1) := by decide +kernel
theorem d_law_463 : decode code 463 = .ok (.aload_n 0, 1) := by decide +kernel
theorem d_law_464 : decode code 464 = .ok (.iload_n 3, 1) := by decide +kernel
theorem d_law_465 : decode code 465 = .ok (.iconst 2, 1) := by decide +kernel
theorem d_law_466 : decode code 466 = .ok (.iadd, 1) := by decide +kernel
theorem d_law_467 : decode code 467 = .ok (.iaload, 1) := by decide +kernel
theorem d_law_468 : decode code 468 = .ok (.invokevirtual 62, 3) := by decide +kernel
theorem d_law_471 : decode code 471 = .ok (.aload_n 2, 1) := by decide +kernel
theorem d_law_472 : decode code 472 = .ok (.aload_n 0, 1) := by decide +kernel
theorem d_law_473 : decode code 473 = .ok (.iload_n 3, 1) := by decide +kernel
theorem d_law_474 : decode code 474 = .ok (.iconst 1, 1) := by decide +kernel
theorem d_law_475 : decode code 475 = .ok (.iadd, 1) := by decide +kernel
theorem d_law_476 : decode code 476 = .ok (.iaload, 1) := by decide +kernel
theorem d_law_477 : decode code 477 = .ok (.aload_n 0, 1) := by decide +kernel
theorem d_law_478 : decode code 478 = .ok (.iload_n 3, 1) := by decide +kernel
theorem d_law_479 : decode code 479 = .ok (.iconst 2, 1) := by decide +kernel
theorem d_law_480 : decode code 480 = .ok (.iadd, 1) := by decide +kernel
theorem d_law_481 : decode code 481 = .ok (.iaload, 1) := by decide +kernel
theorem d_law_482 : decode code 482 = .ok (.invokevirtual 65, 3) := by decide +kernel
theorem d_law_485 : decode code 485 = .ok (.if_icmp .eq 61, 3) := by decide +kernel
theorem d_law_488 : decode code 488 = .ok (.iconst 0, 1) := by decide +kernel
theorem d_law_489 : decode code 489 = .ok (.ireturn, 1) := by decide +kernel
theorem d_law_490 : decode code 490 = .ok (.aload_n 1, 1) := by decide +kernel
theorem d_law_491 : decode code 491 = .ok (.aload_n 0, 1) := by decide +kernel
theorem d_law_492 : decode code 492 = .ok (.iload_n 3, 1) := by decide +kernel
theorem d_law_493 : decode code 493 = .ok (.iconst 1, 1) := by decide +kernel
theorem d_law_494 : decode code 494 = .ok (.iadd, 1) := by decide +kernel
theorem d_law_495 : decode code 495 = .ok (.iaload, 1) := by decide +kernel
theorem d_law_496 : decode code 496 = .ok (.aload_n 0, 1) := by decide +kernel
theorem d_law_497 : decode code 497 = .ok (.iload_n 3, 1) := by decide +kernel
theorem d_law_498 : decode code 498 = .ok (.iconst 2, 1) := by decide +kernel
theorem d_law_499 : decode code 499 = .ok (.iadd, 1) := by decide +kernel
theorem d_law_500 : decode code 500 = .ok (.iaload, 1) := by decide +kernel
theorem d_law_501 : decode code 501 = .ok (.invokevirtual 66, 3) := by decide +kernel
theorem d_law_504 : decode code 504 = .ok (.aload_n 2, 1) := by decide +kernel
theorem d_law_505 : decode code 505 = .ok (.aload_n 0, 1) := by decide +kernel
theorem d_law_506 : decode code 506 = .ok (.iload_n 3, 1) := by decide +kernel
theorem d_law_507 : decode code 507 = .ok (.iconst 1, 1) := by decide +kernel
theorem d_law_508 : decode code 508 = .ok (.iadd, 1) := by decide +kernel
theorem d_law_509 : decode code 509 = .ok (.iaload, 1) := by decide +kernel
theorem d_law_510 : decode code 510 = .ok (.aload_n 0, 1) := by decide +kernel
theorem d_law_511 : decode code 511 = .ok (.iload_n 3, 1) := by decide +kernel
theorem d_law_512 : decode code 512 = .ok (.iconst 2, 1) := by decide +kernel
theorem d_law_513 : decode code 513 = .ok (.iadd, 1) := by decide +kernel
theorem d_law_514 : decode code 514 = .ok (.iaload, 1) := by decide +kernel
theorem d_law_515 : decode code 515 = .ok (.invokevirtual 69, 3) := by decide +kernel
theorem d_law_518 : decode code 518 = .ok (.if_icmp .eq 28, 3) := by decide +kernel
theorem d_law_521 : decode code 521 = .ok (.iconst 0, 1) := by decide +kernel
theorem d_law_522 : decode code 522 = .ok (.ireturn, 1) := by decide +kernel
theorem d_law_523 : decode code 523 = .ok (.aload_n 1, 1) := by decide +kernel
theorem d_law_524 : decode code 524 = .ok (.aload_n 0, 1) := by decide +kernel
theorem d_law_525 : decode code 525 = .ok (.iload_n 3, 1) := by decide +kernel
theorem d_law_526 : decode code 526 = .ok (.iconst 1, 1) := by decide +kernel
theorem d_law_527 : decode code 527 = .ok (.iadd, 1) := by decide +kernel
theorem d_law_528 : decode code 528 = .ok (.iaload, 1) := by decide +kernel
theorem d_law_529 : decode code 529 = .ok (.invokevirtual 70, 3) := by decide +kernel
theorem d_law_532 : decode code 532 = .ok (.aload_n 2, 1) := by decide +kernel
theorem d_law_533 : decode code 533 = .ok (.aload_n 0, 1) := by decide +kernel
theorem d_law_534 : decode code 534 = .ok (.iload_n 3, 1) := by decide +kernel
theorem d_law_535 : decode code 535 = .ok (.iconst 1, 1) := by decide +kernel
theorem d_law_536 : decode code 536 = .ok (.iadd, 1) := by decide +kernel
theorem d_law_537 : decode code 537 = .ok (.iaload, 1) := by decide +kernel
theorem d_law_538 : decode code 538 = .ok (.invokevirtual 73, 3) := by decide +kernel
theorem d_law_541 : decode code 541 = .ok (.if_icmp .eq 5, 3) := by decide +kernel
theorem d_law_544 : decode code 544 = .ok (.iconst 0, 1) := by decide +kernel
theorem d_law_545 : decode code 545 = .ok (.ireturn, 1) := by decide +kernel
theorem d_law_546 : decode code 546 = .ok (.iinc 3 6, 3) := by decide +kernel
theorem d_law_549 : decode code 549 = .ok (.goto (-531), 3) := by decide +kernel
theorem d_law_552 : decode code 552 = .ok (.iconst 1, 1) := by decide +kernel
theorem d_law_553 : decode code 553 = .ok (.ireturn, 1) := by decide +kernel
/-- what every call must do: both answer, and alike; the tie holds again -/
def zl_step (F KK : Nat) (Inv : Nat → zs_S → zs_S → Prop) : Prop := ∀ (k : Nat) (σ τ : zs_S), k < KK → Inv k σ τ →
  (∀ a1 a2 a3 a4 a5 : Int32, ∃ (r : Int32) (σ1 τ1 : zs_S), zf_S_feed F a1 a2 a3 a4 a5 σ = some (r, σ1) ∧ zf_M_feed F a1 a2 a3 a4 a5 τ = some (r, τ1) ∧ Inv (k + 1) σ1 τ1) ∧
  (∀ a1 : Int32, ∃ (r : Int32) (σ1 τ1 : zs_S), zf_S_end F a1 σ = some (r, σ1) ∧ zf_M_end F a1 τ = some (r, τ1) ∧ Inv (k + 1) σ1 τ1) ∧
  (∃ (r : Int32) (σ1 τ1 : zs_S), zf_S_check F  σ = some (r, σ1) ∧ zf_M_check F  τ = some (r, τ1) ∧ Inv (k + 1) σ1 τ1) ∧
  (∀ a1 : Int32, ∃ (r : Int32) (σ1 τ1 : zs_S), zf_S_count F a1 σ = some (r, σ1) ∧ zf_M_count F a1 τ = some (r, τ1) ∧ Inv (k + 1) σ1 τ1) ∧
  (∀ a1 : Int32, ∃ (r : Int32) (σ1 τ1 : zs_S), zf_S_first F a1 σ = some (r, σ1) ∧ zf_M_first F a1 τ = some (r, τ1) ∧ Inv (k + 1) σ1 τ1) ∧
  (∀ a1 a2 : Int32, ∃ (r : Int32) (σ1 τ1 : zs_S), zf_S_look F a1 a2 σ = some (r, σ1) ∧ zf_M_look F a1 a2 τ = some (r, τ1) ∧ Inv (k + 1) σ1 τ1) ∧
  (∀ a1 a2 : Int32, ∃ (r : Int32) (σ1 τ1 : zs_S), zf_S_value F a1 a2 σ = some (r, σ1) ∧ zf_M_value F a1 a2 τ = some (r, τ1) ∧ Inv (k + 1) σ1 τ1) ∧
  (∀ a1 a2 a3 : Int32, ∃ (r : Int32) (σ1 τ1 : zs_S), zf_S_local F a1 a2 a3 σ = some (r, σ1) ∧ zf_M_local F a1 a2 a3 τ = some (r, τ1) ∧ Inv (k + 1) σ1 τ1) ∧
  (∀ a1 a2 : Int32, ∃ (r : Int32) (σ1 τ1 : zs_S), zf_S_place F a1 a2 σ = some (r, σ1) ∧ zf_M_place F a1 a2 τ = some (r, τ1) ∧ Inv (k + 1) σ1 τ1) ∧
  (∀ a1 a2 : Int32, ∃ (r : Int32) (σ1 τ1 : zs_S), zf_S_owner F a1 a2 σ = some (r, σ1) ∧ zf_M_owner F a1 a2 τ = some (r, τ1) ∧ Inv (k + 1) σ1 τ1) ∧
  (∀ a1 a2 : Int32, ∃ (r : Int32) (σ1 τ1 : zs_S), zf_S_waits F a1 a2 σ = some (r, σ1) ∧ zf_M_waits F a1 a2 τ = some (r, τ1) ∧ Inv (k + 1) σ1 τ1) ∧
  (∀ a1 a2 : Int32, ∃ (r : Int32) (σ1 τ1 : zs_S), zf_S_next F a1 a2 σ = some (r, σ1) ∧ zf_M_next F a1 a2 τ = some (r, τ1) ∧ Inv (k + 1) σ1 τ1) ∧
  (∀ a1 a2 : Int32, ∃ (r : Int32) (σ1 τ1 : zs_S), zf_S_outcome F a1 a2 σ = some (r, σ1) ∧ zf_M_outcome F a1 a2 τ = some (r, τ1) ∧ Inv (k + 1) σ1 τ1) ∧
  (∀ a1 : Int32, ∃ (r : Int32) (σ1 τ1 : zs_S), zf_S_race F a1 σ = some (r, σ1) ∧ zf_M_race F a1 τ = some (r, τ1) ∧ Inv (k + 1) σ1 τ1) ∧
  Inv (k + 1) σ τ
theorem zl_six {L k : Nat} (hL : L ≤ 3072) (hk : k ≤ 512) : (nI L - 6 < nI (6 * k)) ↔ L < 6 * k + 6 := by
  rw [Int32.lt_iff_toInt_lt]
  have h1 : (nI L - 6).toInt = (L : Int) - 6 := pk_sub_toInt (a := L) (b := 6) (by omega) (by omega)
  rw [h1, nI_toInt (by omega)]
  omega
theorem zl_vi {L k : Nat} (j : Nat) (hL : L ≤ 3072) (h : 6 * k + j < L) {J : Int32} (hJ : nI j = J) : vp_in (nI (6 * k) + J) L := by
  rw [← hJ, nI_add]
  exact vp_in_nI h (by omega)
set_option maxHeartbeats 8000000 in
set_option maxRecDepth 100000 in
theorem zl_loop {p : Program} {e : Env} {s : State} {m : MethodId} {below : List Frame} {meth : Method} {c : Code} (l : Launch) {b L : Nat} {xs : Nat → Int32} {D : va_G} {cA cB : Nat → ClassId} {ad bd : Nat → Nat} {F KK : Nat} {Inv : Nat → zs_S → zs_S → Prop} (hL : L ≤ 3072) (hLK : L < 6 * KK + 6) (hKK : KK ≤ 512) (C0 : lw_At p s m meth c b L xs) (H1 : zl_H 0 D cA ad s) (H2 : zl_H 1 D cB bd s) (hap : ∀ o, o ∈ zd_L 0 → ∀ o', o' ∈ zd_L 1 → bd o' ≠ ad o) (hstep : zl_step F KK Inv) : ∀ (n k : Nat) (σ τ : zs_S) (H : Heap) (locs : List Loc) (ls : Array Slot), KK < n + k → k ≤ KK → Inv k σ τ → zl_I 0 1 D cA cB ad bd s σ τ H locs → lv_has ls 4 [(3, .int (nI (6 * k))), (0, .ref b), (1, .ref (ad 1)), (2, .ref (bd 1))] → W p l e room_1 s m #[Value.ref b] below meth c H locs (300 + k) (200000 + 5 * k) (lw_Z below #[Value.ref b] s) (F0 m 18 ls []) := by
  obtain ⟨hx, hb, hr, hml, hown, htb, hX, hbl, hlocks, hgv⟩ := C0
  have hts : ∀ w ∈ zd_ww, w.before #[Value.ref b] s = true := fun w h => htb w (List.mem_filter.mp h).1
  have SS : CallFix p m c code 4 s #[Value.ref b] zd_ww R_law := ⟨hx, hb, hml, hown, hts⟩
  have hbA : ¬ (fun q => s.heap.size ≤ q) b := Nat.not_le.mpr hbl
  have hap2 : ∀ o, o ∈ zd_L 1 → ∀ o', o' ∈ zd_L 0 → ad o' ≠ bd o := fun o ho o' ho' e => hap o' ho' o ho e.symm
  intro n
  induction n with
  | zero => intro k σ τ H locs ls h1 h2; omega
  | succ n ih =>
    intro k σ τ H locs ls hn hk hI hw hl
    have next : ∀ (σ τ : zs_S) (H : Heap) (locs : List Loc), k < KK → Inv (k + 1) σ τ → zl_I 0 1 D cA cB ad bd s σ τ H locs → W p l e room_1 s m #[Value.ref b] below meth c H locs (300 + (k + 1)) (200000 + 5 * (k + 1)) (lw_Z below #[Value.ref b] s) (F0 m 546 ls []) := by
      intro σ τ H locs hk1 hI hw
      have e6 : nI (6 * k) + Int32.ofInt 6 = nI (6 * (k + 1)) := by
        rw [show Int32.ofInt 6 = nI 6 by decide, nI_add]
        rfl
      refine lv_iinc (v := nI (6 * (k + 1))) hx hb d_law_546 hl (k := 0) rfl e6 (by decide) rfl (fun ls hl => ?_)
      refine lv_goto hx hb d_law_549 (tgt := 18) rfl ?_
      exact ih (k + 1) σ τ H locs ls (by omega) (by omega) hI hw hl
    refine lv_iload_n hx hb d_law_18 rfl (lv_at hl 0 rfl) ?_
    refine lv_aload_n hx hb d_law_19 rfl (lv_at hl 1 rfl) ?_
    refine va_slen hx hb hX hbl hbA hw.2.2 d_law_20 ?_
    refine lv_bipush (v := 6) hx hb d_law_21 (by decide) ?_
    refine lv_isub hx hb d_law_23 ?_
    refine lv_icmp_gt hx hb d_law_24 (tgt := 552) rfl (fun hc => ?_) (fun hc => ?_)
    · refine lv_iconst (v := 1) hx hb d_law_552 (by decide) ?_
      refine va_forget (fun q hq => hw.2.2.2.2 q hq) ?_
      refine W.widen (k := 600000) (n := 7302250) (by omega) (by omega) ?_
      exact lw_ret hx hb hr hlocks d_law_553
    · have h6 : 6 * k + 6 ≤ L := Nat.le_of_not_lt (fun h => hc ((zl_six hL (by omega)).mpr h))
      have hk1 : k < KK := by omega
      obtain ⟨S0, S1, S2, S3, S4, S5, S6, S7, S8, S9, S10, S11, S12, S13, S14⟩ := hstep k σ τ hk1 hI
      refine lv_aload_n hx hb d_law_27 rfl (lv_at hl 1 rfl) ?_
      refine lv_iload_n hx hb d_law_28 rfl (lv_at hl 0 rfl) ?_
      refine va_sld hx hb hX hbl hbA hw.2.2 (vp_in_nI (by omega) (by omega)) d_law_29 ?_
      refine lv_bipush (v := 15) hx hb d_law_30 (by decide) ?_
      refine lv_iand hx hb d_law_32 ?_
      refine lv_topi (fun v e_v => ?_)
      by_cases hc0 : v = 0
      · refine lv_tableIn hx hb d_law_33 (tgt := 104) (by rw [hc0]; decide) (by rw [hc0]; decide) (by rw [hc0]; rfl) rfl ?_
        obtain ⟨r, σ1, τ1, g1, g2, hI⟩ := S0 (xs (nI (6 * k) + 1).toNatClampNeg) (xs (nI (6 * k) + 2).toNatClampNeg) (xs (nI (6 * k) + 3).toNatClampNeg) (xs (nI (6 * k) + 4).toNatClampNeg) (xs (nI (6 * k) + 5).toNatClampNeg)
        refine lv_aload_n hx hb d_law_104 rfl (lv_at hl 2 rfl) ?_
        refine lv_aload_n hx hb d_law_105 rfl (lv_at hl 1 rfl) ?_
        refine lv_iload_n hx hb d_law_106 rfl (lv_at hl 0 rfl) ?_
        refine lv_iconst (v := 1) hx hb d_law_107 (by decide) ?_
        refine lv_iadd hx hb d_law_108 ?_
        refine va_sld hx hb hX hbl hbA hw.2.2 (zl_vi 1 hL (by omega) rfl) d_law_109 ?_
        refine lv_aload_n hx hb d_law_110 rfl (lv_at hl 1 rfl) ?_
        refine lv_iload_n hx hb d_law_111 rfl (lv_at hl 0 rfl) ?_
        refine lv_iconst (v := 2) hx hb d_law_112 (by decide) ?_
        refine lv_iadd hx hb d_law_113 ?_
        refine va_sld hx hb hX hbl hbA hw.2.2 (zl_vi 2 hL (by omega) rfl) d_law_114 ?_
        refine lv_aload_n hx hb d_law_115 rfl (lv_at hl 1 rfl) ?_
        refine lv_iload_n hx hb d_law_116 rfl (lv_at hl 0 rfl) ?_
        refine lv_iconst (v := 3) hx hb d_law_117 (by decide) ?_
        refine lv_iadd hx hb d_law_118 ?_
        refine va_sld hx hb hX hbl hbA hw.2.2 (zl_vi 3 hL (by omega) rfl) d_law_119 ?_
        refine lv_aload_n hx hb d_law_120 rfl (lv_at hl 1 rfl) ?_
        refine lv_iload_n hx hb d_law_121 rfl (lv_at hl 0 rfl) ?_
        refine lv_iconst (v := 4) hx hb d_law_122 (by decide) ?_
        refine lv_iadd hx hb d_law_123 ?_
        refine va_sld hx hb hX hbl hbA hw.2.2 (zl_vi 4 hL (by omega) rfl) d_law_124 ?_
        refine lv_aload_n hx hb d_law_125 rfl (lv_at hl 1 rfl) ?_
        refine lv_iload_n hx hb d_law_126 rfl (lv_at hl 0 rfl) ?_
        refine lv_iconst (v := 5) hx hb d_law_127 (by decide) ?_
        refine lv_iadd hx hb d_law_128 ?_
        refine va_sld hx hb hX hbl hbA hw.2.2 (zl_vi 5 hL (by omega) rfl) d_law_129 ?_
        refine zl_call (w := 0) (v := 1) (ci := 0) (rest := []) SS H1 hap hw [.int (xs (nI (6 * k) + 1).toNatClampNeg), .int (xs (nI (6 * k) + 2).toNatClampNeg), .int (xs (nI (6 * k) + 3).toNatClampNeg), .int (xs (nI (6 * k) + 4).toNatClampNeg), .int (xs (nI (6 * k) + 5).toNatClampNeg)] rfl rfl (zc_S_feed H1.2.1 g1) (cwV 5 hts (zs_gV zn5_1 zn5_2 zn5_3 zn5_4 zn5_0) rfl rfl rfl (by decide +kernel) ⟨by decide, by decide⟩) rfl hl.1 (Nat.le_of_ble_eq_true rfl) d_law_130 ⟨by show _ ≤ 600000; omega, by show _ ≤ 7302250; omega⟩ (fun H locs hw => ?_)
        refine lv_aload_n hx hb d_law_133 rfl (lv_at hl 3 rfl) ?_
        refine lv_aload_n hx hb d_law_134 rfl (lv_at hl 1 rfl) ?_
        refine lv_iload_n hx hb d_law_135 rfl (lv_at hl 0 rfl) ?_
        refine lv_iconst (v := 1) hx hb d_law_136 (by decide) ?_
        refine lv_iadd hx hb d_law_137 ?_
        refine va_sld hx hb hX hbl hbA hw.2.2 (zl_vi 1 hL (by omega) rfl) d_law_138 ?_
        refine lv_aload_n hx hb d_law_139 rfl (lv_at hl 1 rfl) ?_
        refine lv_iload_n hx hb d_law_140 rfl (lv_at hl 0 rfl) ?_
        refine lv_iconst (v := 2) hx hb d_law_141 (by decide) ?_
        refine lv_iadd hx hb d_law_142 ?_
        refine va_sld hx hb hX hbl hbA hw.2.2 (zl_vi 2 hL (by omega) rfl) d_law_143 ?_
        refine lv_aload_n hx hb d_law_144 rfl (lv_at hl 1 rfl) ?_
        refine lv_iload_n hx hb d_law_145 rfl (lv_at hl 0 rfl) ?_
        refine lv_iconst (v := 3) hx hb d_law_146 (by decide) ?_
        refine lv_iadd hx hb d_law_147 ?_
        refine va_sld hx hb hX hbl hbA hw.2.2 (zl_vi 3 hL (by omega) rfl) d_law_148 ?_
        refine lv_aload_n hx hb d_law_149 rfl (lv_at hl 1 rfl) ?_
        refine lv_iload_n hx hb d_law_150 rfl (lv_at hl 0 rfl) ?_
        refine lv_iconst (v := 4) hx hb d_law_151 (by decide) ?_
        refine lv_iadd hx hb d_law_152 ?_
        refine va_sld hx hb hX hbl hbA hw.2.2 (zl_vi 4 hL (by omega) rfl) d_law_153 ?_
        refine lv_aload_n hx hb d_law_154 rfl (lv_at hl 1 rfl) ?_
        refine lv_iload_n hx hb d_law_155 rfl (lv_at hl 0 rfl) ?_
        refine lv_iconst (v := 5) hx hb d_law_156 (by decide) ?_
        refine lv_iadd hx hb d_law_157 ?_
        refine va_sld hx hb hX hbl hbA hw.2.2 (zl_vi 5 hL (by omega) rfl) d_law_158 ?_
        refine zl_call (w := 1) (v := 0) (ci := 8) (rest := [.int r]) SS H2 hap2 (zl_sw hw) [.int (xs (nI (6 * k) + 1).toNatClampNeg), .int (xs (nI (6 * k) + 2).toNatClampNeg), .int (xs (nI (6 * k) + 3).toNatClampNeg), .int (xs (nI (6 * k) + 4).toNatClampNeg), .int (xs (nI (6 * k) + 5).toNatClampNeg)] rfl rfl (zc_M_feed H2.2.1 g2) (cwV 5 hts (zs_gV zn5_6 zn5_7 zn5_8 zn5_9 zn5_5) rfl rfl rfl (by decide +kernel) ⟨by decide, by decide⟩) rfl hl.1 (Nat.le_of_ble_eq_true rfl) d_law_159 ⟨by show _ ≤ 600000; omega, by show _ ≤ 7302250; omega⟩ (fun H locs hw => ?_)
        have hw := zl_sw hw
        refine W.widen (k := 300 + (k + 1)) (n := 200000 + 5 * (k + 1)) (by omega) (by omega) ?_
        refine lv_icmp_eq hx hb d_law_162 (tgt := 546) rfl (fun _ => ?_) (fun h => absurd rfl h)
        exact next σ1 τ1 H locs hk1 hI hw
      by_cases hc1 : v = 1
      · refine lv_tableIn hx hb d_law_33 (tgt := 167) (by rw [hc1]; decide) (by rw [hc1]; decide) (by rw [hc1]; rfl) rfl ?_
        obtain ⟨r, σ1, τ1, g1, g2, hI⟩ := S1 (xs (nI (6 * k) + 1).toNatClampNeg)
        refine lv_aload_n hx hb d_law_167 rfl (lv_at hl 2 rfl) ?_
        refine lv_aload_n hx hb d_law_168 rfl (lv_at hl 1 rfl) ?_
        refine lv_iload_n hx hb d_law_169 rfl (lv_at hl 0 rfl) ?_
        refine lv_iconst (v := 1) hx hb d_law_170 (by decide) ?_
        refine lv_iadd hx hb d_law_171 ?_
        refine va_sld hx hb hX hbl hbA hw.2.2 (zl_vi 1 hL (by omega) rfl) d_law_172 ?_
        refine zl_call (w := 0) (v := 1) (ci := 0) (rest := []) SS H1 hap hw [.int (xs (nI (6 * k) + 1).toNatClampNeg)] rfl rfl (zc_S_end H1.2.1 g1) (cwV 1 hts (zs_gV zn5_11 zn5_12 zn5_13 zn5_4 zn5_10) rfl rfl rfl (by decide +kernel) ⟨by decide, by decide⟩) rfl hl.1 (Nat.le_of_ble_eq_true rfl) d_law_173 ⟨by show _ ≤ 600000; omega, by show _ ≤ 7302250; omega⟩ (fun H locs hw => ?_)
        refine lv_aload_n hx hb d_law_176 rfl (lv_at hl 3 rfl) ?_
        refine lv_aload_n hx hb d_law_177 rfl (lv_at hl 1 rfl) ?_
        refine lv_iload_n hx hb d_law_178 rfl (lv_at hl 0 rfl) ?_
        refine lv_iconst (v := 1) hx hb d_law_179 (by decide) ?_
        refine lv_iadd hx hb d_law_180 ?_
        refine va_sld hx hb hX hbl hbA hw.2.2 (zl_vi 1 hL (by omega) rfl) d_law_181 ?_
        refine zl_call (w := 1) (v := 0) (ci := 8) (rest := [.int r]) SS H2 hap2 (zl_sw hw) [.int (xs (nI (6 * k) + 1).toNatClampNeg)] rfl rfl (zc_M_end H2.2.1 g2) (cwV 1 hts (zs_gV zn5_15 zn5_16 zn5_17 zn5_9 zn5_14) rfl rfl rfl (by decide +kernel) ⟨by decide, by decide⟩) rfl hl.1 (Nat.le_of_ble_eq_true rfl) d_law_182 ⟨by show _ ≤ 600000; omega, by show _ ≤ 7302250; omega⟩ (fun H locs hw => ?_)
        have hw := zl_sw hw
        refine W.widen (k := 300 + (k + 1)) (n := 200000 + 5 * (k + 1)) (by omega) (by omega) ?_
        refine lv_icmp_eq hx hb d_law_185 (tgt := 546) rfl (fun _ => ?_) (fun h => absurd rfl h)
        exact next σ1 τ1 H locs hk1 hI hw
      by_cases hc2 : v = 2
      · refine lv_tableIn hx hb d_law_33 (tgt := 190) (by rw [hc2]; decide) (by rw [hc2]; decide) (by rw [hc2]; rfl) rfl ?_
        obtain ⟨r, σ1, τ1, g1, g2, hI⟩ := S2 
        refine lv_aload_n hx hb d_law_190 rfl (lv_at hl 2 rfl) ?_
        refine zl_call (w := 0) (v := 1) (ci := 0) (rest := []) SS H1 hap hw [] rfl rfl (zc_S_check H1.2.1 g1) (cwV 0 hts (zs_gV zn5_19 zn5_20 zn5_21 zn5_4 zn5_18) rfl rfl rfl (by decide +kernel) ⟨by decide, by decide⟩) rfl hl.1 (Nat.le_of_ble_eq_true rfl) d_law_191 ⟨by show _ ≤ 600000; omega, by show _ ≤ 7302250; omega⟩ (fun H locs hw => ?_)
        refine lv_aload_n hx hb d_law_194 rfl (lv_at hl 3 rfl) ?_
        refine zl_call (w := 1) (v := 0) (ci := 8) (rest := [.int r]) SS H2 hap2 (zl_sw hw) [] rfl rfl (zc_M_check H2.2.1 g2) (cwV 0 hts (zs_gV zn5_23 zn5_24 zn5_25 zn5_9 zn5_22) rfl rfl rfl (by decide +kernel) ⟨by decide, by decide⟩) rfl hl.1 (Nat.le_of_ble_eq_true rfl) d_law_195 ⟨by show _ ≤ 600000; omega, by show _ ≤ 7302250; omega⟩ (fun H locs hw => ?_)
        have hw := zl_sw hw
        refine W.widen (k := 300 + (k + 1)) (n := 200000 + 5 * (k + 1)) (by omega) (by omega) ?_
        refine lv_icmp_eq hx hb d_law_198 (tgt := 546) rfl (fun _ => ?_) (fun h => absurd rfl h)
        exact next σ1 τ1 H locs hk1 hI hw
      by_cases hc3 : v = 3
      · refine lv_tableIn hx hb d_law_33 (tgt := 203) (by rw [hc3]; decide) (by rw [hc3]; decide) (by rw [hc3]; rfl) rfl ?_
        obtain ⟨r, σ1, τ1, g1, g2, hI⟩ := S3 (xs (nI (6 * k) + 1).toNatClampNeg)
        refine lv_aload_n hx hb d_law_203 rfl (lv_at hl 2 rfl) ?_
        refine lv_aload_n hx hb d_law_204 rfl (lv_at hl 1 rfl) ?_
        refine lv_iload_n hx hb d_law_205 rfl (lv_at hl 0 rfl) ?_
        refine lv_iconst (v := 1) hx hb d_law_206 (by decide) ?_
        refine lv_iadd hx hb d_law_207 ?_
        refine va_sld hx hb hX hbl hbA hw.2.2 (zl_vi 1 hL (by omega) rfl) d_law_208 ?_
        refine zl_call (w := 0) (v := 1) (ci := 0) (rest := []) SS H1 hap hw [.int (xs (nI (6 * k) + 1).toNatClampNeg)] rfl rfl (zc_S_count H1.2.1 g1) (cwV 1 hts (zs_gV zn5_27 zn5_28 zn5_29 zn5_4 zn5_26) rfl rfl rfl (by decide +kernel) ⟨by decide, by decide⟩) rfl hl.1 (Nat.le_of_ble_eq_true rfl) d_law_209 ⟨by show _ ≤ 600000; omega, by show _ ≤ 7302250; omega⟩ (fun H locs hw => ?_)
        refine lv_aload_n hx hb d_law_212 rfl (lv_at hl 3 rfl) ?_
        refine lv_aload_n hx hb d_law_213 rfl (lv_at hl 1 rfl) ?_
        refine lv_iload_n hx hb d_law_214 rfl (lv_at hl 0 rfl) ?_
        refine lv_iconst (v := 1) hx hb d_law_215 (by decide) ?_
        refine lv_iadd hx hb d_law_216 ?_
        refine va_sld hx hb hX hbl hbA hw.2.2 (zl_vi 1 hL (by omega) rfl) d_law_217 ?_
        refine zl_call (w := 1) (v := 0) (ci := 8) (rest := [.int r]) SS H2 hap2 (zl_sw hw) [.int (xs (nI (6 * k) + 1).toNatClampNeg)] rfl rfl (zc_M_count H2.2.1 g2) (cwV 1 hts (zs_gV zn5_31 zn5_32 zn5_33 zn5_9 zn5_30) rfl rfl rfl (by decide +kernel) ⟨by decide, by decide⟩) rfl hl.1 (Nat.le_of_ble_eq_true rfl) d_law_218 ⟨by show _ ≤ 600000; omega, by show _ ≤ 7302250; omega⟩ (fun H locs hw => ?_)
        have hw := zl_sw hw
        refine W.widen (k := 300 + (k + 1)) (n := 200000 + 5 * (k + 1)) (by omega) (by omega) ?_
        refine lv_icmp_eq hx hb d_law_221 (tgt := 546) rfl (fun _ => ?_) (fun h => absurd rfl h)
        exact next σ1 τ1 H locs hk1 hI hw
      by_cases hc4 : v = 4
      · refine lv_tableIn hx hb d_law_33 (tgt := 226) (by rw [hc4]; decide) (by rw [hc4]; decide) (by rw [hc4]; rfl) rfl ?_
        obtain ⟨r, σ1, τ1, g1, g2, hI⟩ := S4 (xs (nI (6 * k) + 1).toNatClampNeg)
        refine lv_aload_n hx hb d_law_226 rfl (lv_at hl 2 rfl) ?_
        refine lv_aload_n hx hb d_law_227 rfl (lv_at hl 1 rfl) ?_
        refine lv_iload_n hx hb d_law_228 rfl (lv_at hl 0 rfl) ?_
        refine lv_iconst (v := 1) hx hb d_law_229 (by decide) ?_
        refine lv_iadd hx hb d_law_230 ?_
        refine va_sld hx hb hX hbl hbA hw.2.2 (zl_vi 1 hL (by omega) rfl) d_law_231 ?_
        refine zl_call (w := 0) (v := 1) (ci := 0) (rest := []) SS H1 hap hw [.int (xs (nI (6 * k) + 1).toNatClampNeg)] rfl rfl (zc_S_first H1.2.1 g1) (cwV 1 hts (zs_gV zn5_35 zn5_36 zn5_37 zn5_4 zn5_34) rfl rfl rfl (by decide +kernel) ⟨by decide, by decide⟩) rfl hl.1 (Nat.le_of_ble_eq_true rfl) d_law_232 ⟨by show _ ≤ 600000; omega, by show _ ≤ 7302250; omega⟩ (fun H locs hw => ?_)
        refine lv_aload_n hx hb d_law_235 rfl (lv_at hl 3 rfl) ?_
        refine lv_aload_n hx hb d_law_236 rfl (lv_at hl 1 rfl) ?_
        refine lv_iload_n hx hb d_law_237 rfl (lv_at hl 0 rfl) ?_
        refine lv_iconst (v := 1) hx hb d_law_238 (by decide) ?_
        refine lv_iadd hx hb d_law_239 ?_
        refine va_sld hx hb hX hbl hbA hw.2.2 (zl_vi 1 hL (by omega) rfl) d_law_240 ?_
        refine zl_call (w := 1) (v := 0) (ci := 8) (rest := [.int r]) SS H2 hap2 (zl_sw hw) [.int (xs (nI (6 * k) + 1).toNatClampNeg)] rfl rfl (zc_M_first H2.2.1 g2) (cwV 1 hts (zs_gV zn5_39 zn5_40 zn5_41 zn5_9 zn5_38) rfl rfl rfl (by decide +kernel) ⟨by decide, by decide⟩) rfl hl.1 (Nat.le_of_ble_eq_true rfl) d_law_241 ⟨by show _ ≤ 600000; omega, by show _ ≤ 7302250; omega⟩ (fun H locs hw => ?_)
        have hw := zl_sw hw
        refine W.widen (k := 300 + (k + 1)) (n := 200000 + 5 * (k + 1)) (by omega) (by omega) ?_
        refine lv_icmp_eq hx hb d_law_244 (tgt := 546) rfl (fun _ => ?_) (fun h => absurd rfl h)
        exact next σ1 τ1 H locs hk1 hI hw
      by_cases hc5 : v = 5
      · refine lv_tableIn hx hb d_law_33 (tgt := 249) (by rw [hc5]; decide) (by rw [hc5]; decide) (by rw [hc5]; rfl) rfl ?_
        obtain ⟨r, σ1, τ1, g1, g2, hI⟩ := S5 (xs (nI (6 * k) + 1).toNatClampNeg) (xs (nI (6 * k) + 2).toNatClampNeg)
        refine lv_aload_n hx hb d_law_249 rfl (lv_at hl 2 rfl) ?_
        refine lv_aload_n hx hb d_law_250 rfl (lv_at hl 1 rfl) ?_
        refine lv_iload_n hx hb d_law_251 rfl (lv_at hl 0 rfl) ?_
        refine lv_iconst (v := 1) hx hb d_law_252 (by decide) ?_
        refine lv_iadd hx hb d_law_253 ?_
        refine va_sld hx hb hX hbl hbA hw.2.2 (zl_vi 1 hL (by omega) rfl) d_law_254 ?_
        refine lv_aload_n hx hb d_law_255 rfl (lv_at hl 1 rfl) ?_
        refine lv_iload_n hx hb d_law_256 rfl (lv_at hl 0 rfl) ?_
        refine lv_iconst (v := 2) hx hb d_law_257 (by decide) ?_
        refine lv_iadd hx hb d_law_258 ?_
        refine va_sld hx hb hX hbl hbA hw.2.2 (zl_vi 2 hL (by omega) rfl) d_law_259 ?_
        refine zl_call (w := 0) (v := 1) (ci := 0) (rest := []) SS H1 hap hw [.int (xs (nI (6 * k) + 1).toNatClampNeg), .int (xs (nI (6 * k) + 2).toNatClampNeg)] rfl rfl (zc_S_look H1.2.1 g1) (cwV 2 hts (zs_gV zn5_43 zn5_44 zn5_45 zn5_4 zn5_42) rfl rfl rfl (by decide +kernel) ⟨by decide, by decide⟩) rfl hl.1 (Nat.le_of_ble_eq_true rfl) d_law_260 ⟨by show _ ≤ 600000; omega, by show _ ≤ 7302250; omega⟩ (fun H locs hw => ?_)
        refine lv_aload_n hx hb d_law_263 rfl (lv_at hl 3 rfl) ?_
        refine lv_aload_n hx hb d_law_264 rfl (lv_at hl 1 rfl) ?_
        refine lv_iload_n hx hb d_law_265 rfl (lv_at hl 0 rfl) ?_
        refine lv_iconst (v := 1) hx hb d_law_266 (by decide) ?_
        refine lv_iadd hx hb d_law_267 ?_
        refine va_sld hx hb hX hbl hbA hw.2.2 (zl_vi 1 hL (by omega) rfl) d_law_268 ?_
        refine lv_aload_n hx hb d_law_269 rfl (lv_at hl 1 rfl) ?_
        refine lv_iload_n hx hb d_law_270 rfl (lv_at hl 0 rfl) ?_
        refine lv_iconst (v := 2) hx hb d_law_271 (by decide) ?_
        refine lv_iadd hx hb d_law_272 ?_
        refine va_sld hx hb hX hbl hbA hw.2.2 (zl_vi 2 hL (by omega) rfl) d_law_273 ?_
        refine zl_call (w := 1) (v := 0) (ci := 8) (rest := [.int r]) SS H2 hap2 (zl_sw hw) [.int (xs (nI (6 * k) + 1).toNatClampNeg), .int (xs (nI (6 * k) + 2).toNatClampNeg)] rfl rfl (zc_M_look H2.2.1 g2) (cwV 2 hts (zs_gV zn5_47 zn5_48 zn5_49 zn5_9 zn5_46) rfl rfl rfl (by decide +kernel) ⟨by decide, by decide⟩) rfl hl.1 (Nat.le_of_ble_eq_true rfl) d_law_274 ⟨by show _ ≤ 600000; omega, by show _ ≤ 7302250; omega⟩ (fun H locs hw => ?_)
        have hw := zl_sw hw
        refine W.widen (k := 300 + (k + 1)) (n := 200000 + 5 * (k + 1)) (by omega) (by omega) ?_
        refine lv_icmp_eq hx hb d_law_277 (tgt := 546) rfl (fun _ => ?_) (fun h => absurd rfl h)
        exact next σ1 τ1 H locs hk1 hI hw
      by_cases hc6 : v = 6
      · refine lv_tableIn hx hb d_law_33 (tgt := 282) (by rw [hc6]; decide) (by rw [hc6]; decide) (by rw [hc6]; rfl) rfl ?_
        obtain ⟨r, σ1, τ1, g1, g2, hI⟩ := S6 (xs (nI (6 * k) + 1).toNatClampNeg) (xs (nI (6 * k) + 2).toNatClampNeg)
        refine lv_aload_n hx hb d_law_282 rfl (lv_at hl 2 rfl) ?_
        refine lv_aload_n hx hb d_law_283 rfl (lv_at hl 1 rfl) ?_
        refine lv_iload_n hx hb d_law_284 rfl (lv_at hl 0 rfl) ?_
        refine lv_iconst (v := 1) hx hb d_law_285 (by decide) ?_
        refine lv_iadd hx hb d_law_286 ?_
        refine va_sld hx hb hX hbl hbA hw.2.2 (zl_vi 1 hL (by omega) rfl) d_law_287 ?_
        refine lv_aload_n hx hb d_law_288 rfl (lv_at hl 1 rfl) ?_
        refine lv_iload_n hx hb d_law_289 rfl (lv_at hl 0 rfl) ?_
        refine lv_iconst (v := 2) hx hb d_law_290 (by decide) ?_
        refine lv_iadd hx hb d_law_291 ?_
        refine va_sld hx hb hX hbl hbA hw.2.2 (zl_vi 2 hL (by omega) rfl) d_law_292 ?_
        refine zl_call (w := 0) (v := 1) (ci := 0) (rest := []) SS H1 hap hw [.int (xs (nI (6 * k) + 1).toNatClampNeg), .int (xs (nI (6 * k) + 2).toNatClampNeg)] rfl rfl (zc_S_value H1.2.1 g1) (cwV 2 hts (zs_gV zn5_51 zn5_52 zn5_53 zn5_4 zn5_50) rfl rfl rfl (by decide +kernel) ⟨by decide, by decide⟩) rfl hl.1 (Nat.le_of_ble_eq_true rfl) d_law_293 ⟨by show _ ≤ 600000; omega, by show _ ≤ 7302250; omega⟩ (fun H locs hw => ?_)
        refine lv_aload_n hx hb d_law_296 rfl (lv_at hl 3 rfl) ?_
        refine lv_aload_n hx hb d_law_297 rfl (lv_at hl 1 rfl) ?_
        refine lv_iload_n hx hb d_law_298 rfl (lv_at hl 0 rfl) ?_
        refine lv_iconst (v := 1) hx hb d_law_299 (by decide) ?_
        refine lv_iadd hx hb d_law_300 ?_
        refine va_sld hx hb hX hbl hbA hw.2.2 (zl_vi 1 hL (by omega) rfl) d_law_301 ?_
        refine lv_aload_n hx hb d_law_302 rfl (lv_at hl 1 rfl) ?_
        refine lv_iload_n hx hb d_law_303 rfl (lv_at hl 0 rfl) ?_
        refine lv_iconst (v := 2) hx hb d_law_304 (by decide) ?_
        refine lv_iadd hx hb d_law_305 ?_
        refine va_sld hx hb hX hbl hbA hw.2.2 (zl_vi 2 hL (by omega) rfl) d_law_306 ?_
        refine zl_call (w := 1) (v := 0) (ci := 8) (rest := [.int r]) SS H2 hap2 (zl_sw hw) [.int (xs (nI (6 * k) + 1).toNatClampNeg), .int (xs (nI (6 * k) + 2).toNatClampNeg)] rfl rfl (zc_M_value H2.2.1 g2) (cwV 2 hts (zs_gV zn5_55 zn5_56 zn5_57 zn5_9 zn5_54) rfl rfl rfl (by decide +kernel) ⟨by decide, by decide⟩) rfl hl.1 (Nat.le_of_ble_eq_true rfl) d_law_307 ⟨by show _ ≤ 600000; omega, by show _ ≤ 7302250; omega⟩ (fun H locs hw => ?_)
        have hw := zl_sw hw
        refine W.widen (k := 300 + (k + 1)) (n := 200000 + 5 * (k + 1)) (by omega) (by omega) ?_
        refine lv_icmp_eq hx hb d_law_310 (tgt := 546) rfl (fun _ => ?_) (fun h => absurd rfl h)
        exact next σ1 τ1 H locs hk1 hI hw
      by_cases hc7 : v = 7
      · refine lv_tableIn hx hb d_law_33 (tgt := 315) (by rw [hc7]; decide) (by rw [hc7]; decide) (by rw [hc7]; rfl) rfl ?_
        obtain ⟨r, σ1, τ1, g1, g2, hI⟩ := S7 (xs (nI (6 * k) + 1).toNatClampNeg) (xs (nI (6 * k) + 2).toNatClampNeg) (xs (nI (6 * k) + 3).toNatClampNeg)
        refine lv_aload_n hx hb d_law_315 rfl (lv_at hl 2 rfl) ?_
        refine lv_aload_n hx hb d_law_316 rfl (lv_at hl 1 rfl) ?_
        refine lv_iload_n hx hb d_law_317 rfl (lv_at hl 0 rfl) ?_
        refine lv_iconst (v := 1) hx hb d_law_318 (by decide) ?_
        refine lv_iadd hx hb d_law_319 ?_
        refine va_sld hx hb hX hbl hbA hw.2.2 (zl_vi 1 hL (by omega) rfl) d_law_320 ?_
        refine lv_aload_n hx hb d_law_321 rfl (lv_at hl 1 rfl) ?_
        refine lv_iload_n hx hb d_law_322 rfl (lv_at hl 0 rfl) ?_
        refine lv_iconst (v := 2) hx hb d_law_323 (by decide) ?_
        refine lv_iadd hx hb d_law_324 ?_
        refine va_sld hx hb hX hbl hbA hw.2.2 (zl_vi 2 hL (by omega) rfl) d_law_325 ?_
        refine lv_aload_n hx hb d_law_326 rfl (lv_at hl 1 rfl) ?_
        refine lv_iload_n hx hb d_law_327 rfl (lv_at hl 0 rfl) ?_
        refine lv_iconst (v := 3) hx hb d_law_328 (by decide) ?_
        refine lv_iadd hx hb d_law_329 ?_
        refine va_sld hx hb hX hbl hbA hw.2.2 (zl_vi 3 hL (by omega) rfl) d_law_330 ?_
        refine zl_call (w := 0) (v := 1) (ci := 0) (rest := []) SS H1 hap hw [.int (xs (nI (6 * k) + 1).toNatClampNeg), .int (xs (nI (6 * k) + 2).toNatClampNeg), .int (xs (nI (6 * k) + 3).toNatClampNeg)] rfl rfl (zc_S_local H1.2.1 g1) (cwV 3 hts (zs_gV zn5_59 zn5_60 zn5_61 zn5_4 zn5_58) rfl rfl rfl (by decide +kernel) ⟨by decide, by decide⟩) rfl hl.1 (Nat.le_of_ble_eq_true rfl) d_law_331 ⟨by show _ ≤ 600000; omega, by show _ ≤ 7302250; omega⟩ (fun H locs hw => ?_)
        refine lv_aload_n hx hb d_law_334 rfl (lv_at hl 3 rfl) ?_
        refine lv_aload_n hx hb d_law_335 rfl (lv_at hl 1 rfl) ?_
        refine lv_iload_n hx hb d_law_336 rfl (lv_at hl 0 rfl) ?_
        refine lv_iconst (v := 1) hx hb d_law_337 (by decide) ?_
        refine lv_iadd hx hb d_law_338 ?_
        refine va_sld hx hb hX hbl hbA hw.2.2 (zl_vi 1 hL (by omega) rfl) d_law_339 ?_
        refine lv_aload_n hx hb d_law_340 rfl (lv_at hl 1 rfl) ?_
        refine lv_iload_n hx hb d_law_341 rfl (lv_at hl 0 rfl) ?_
        refine lv_iconst (v := 2) hx hb d_law_342 (by decide) ?_
        refine lv_iadd hx hb d_law_343 ?_
        refine va_sld hx hb hX hbl hbA hw.2.2 (zl_vi 2 hL (by omega) rfl) d_law_344 ?_
        refine lv_aload_n hx hb d_law_345 rfl (lv_at hl 1 rfl) ?_
        refine lv_iload_n hx hb d_law_346 rfl (lv_at hl 0 rfl) ?_
        refine lv_iconst (v := 3) hx hb d_law_347 (by decide) ?_
        refine lv_iadd hx hb d_law_348 ?_
        refine va_sld hx hb hX hbl hbA hw.2.2 (zl_vi 3 hL (by omega) rfl) d_law_349 ?_
        refine zl_call (w := 1) (v := 0) (ci := 8) (rest := [.int r]) SS H2 hap2 (zl_sw hw) [.int (xs (nI (6 * k) + 1).toNatClampNeg), .int (xs (nI (6 * k) + 2).toNatClampNeg), .int (xs (nI (6 * k) + 3).toNatClampNeg)] rfl rfl (zc_M_local H2.2.1 g2) (cwV 3 hts (zs_gV zn5_63 zn5_64 zn5_65 zn5_9 zn5_62) rfl rfl rfl (by decide +kernel) ⟨by decide, by decide⟩) rfl hl.1 (Nat.le_of_ble_eq_true rfl) d_law_350 ⟨by show _ ≤ 600000; omega, by show _ ≤ 7302250; omega⟩ (fun H locs hw => ?_)
        have hw := zl_sw hw
        refine W.widen (k := 300 + (k + 1)) (n := 200000 + 5 * (k + 1)) (by omega) (by omega) ?_
        refine lv_icmp_eq hx hb d_law_353 (tgt := 546) rfl (fun _ => ?_) (fun h => absurd rfl h)
        exact next σ1 τ1 H locs hk1 hI hw
      by_cases hc8 : v = 8
      · refine lv_tableIn hx hb d_law_33 (tgt := 358) (by rw [hc8]; decide) (by rw [hc8]; decide) (by rw [hc8]; rfl) rfl ?_
        obtain ⟨r, σ1, τ1, g1, g2, hI⟩ := S8 (xs (nI (6 * k) + 1).toNatClampNeg) (xs (nI (6 * k) + 2).toNatClampNeg)
        refine lv_aload_n hx hb d_law_358 rfl (lv_at hl 2 rfl) ?_
        refine lv_aload_n hx hb d_law_359 rfl (lv_at hl 1 rfl) ?_
        refine lv_iload_n hx hb d_law_360 rfl (lv_at hl 0 rfl) ?_
        refine lv_iconst (v := 1) hx hb d_law_361 (by decide) ?_
        refine lv_iadd hx hb d_law_362 ?_
        refine va_sld hx hb hX hbl hbA hw.2.2 (zl_vi 1 hL (by omega) rfl) d_law_363 ?_
        refine lv_aload_n hx hb d_law_364 rfl (lv_at hl 1 rfl) ?_
        refine lv_iload_n hx hb d_law_365 rfl (lv_at hl 0 rfl) ?_
        refine lv_iconst (v := 2) hx hb d_law_366 (by decide) ?_
        refine lv_iadd hx hb d_law_367 ?_
        refine va_sld hx hb hX hbl hbA hw.2.2 (zl_vi 2 hL (by omega) rfl) d_law_368 ?_
        refine zl_call (w := 0) (v := 1) (ci := 0) (rest := []) SS H1 hap hw [.int (xs (nI (6 * k) + 1).toNatClampNeg), .int (xs (nI (6 * k) + 2).toNatClampNeg)] rfl rfl (zc_S_place H1.2.1 g1) (cwV 2 hts (zs_gV zn5_67 zn5_68 zn5_69 zn5_4 zn5_66) rfl rfl rfl (by decide +kernel) ⟨by decide, by decide⟩) rfl hl.1 (Nat.le_of_ble_eq_true rfl) d_law_369 ⟨by show _ ≤ 600000; omega, by show _ ≤ 7302250; omega⟩ (fun H locs hw => ?_)
        refine lv_aload_n hx hb d_law_372 rfl (lv_at hl 3 rfl) ?_
        refine lv_aload_n hx hb d_law_373 rfl (lv_at hl 1 rfl) ?_
        refine lv_iload_n hx hb d_law_374 rfl (lv_at hl 0 rfl) ?_
        refine lv_iconst (v := 1) hx hb d_law_375 (by decide) ?_
        refine lv_iadd hx hb d_law_376 ?_
        refine va_sld hx hb hX hbl hbA hw.2.2 (zl_vi 1 hL (by omega) rfl) d_law_377 ?_
        refine lv_aload_n hx hb d_law_378 rfl (lv_at hl 1 rfl) ?_
        refine lv_iload_n hx hb d_law_379 rfl (lv_at hl 0 rfl) ?_
        refine lv_iconst (v := 2) hx hb d_law_380 (by decide) ?_
        refine lv_iadd hx hb d_law_381 ?_
        refine va_sld hx hb hX hbl hbA hw.2.2 (zl_vi 2 hL (by omega) rfl) d_law_382 ?_
        refine zl_call (w := 1) (v := 0) (ci := 8) (rest := [.int r]) SS H2 hap2 (zl_sw hw) [.int (xs (nI (6 * k) + 1).toNatClampNeg), .int (xs (nI (6 * k) + 2).toNatClampNeg)] rfl rfl (zc_M_place H2.2.1 g2) (cwV 2 hts (zs_gV zn5_71 zn5_72 zn5_73 zn5_9 zn5_70) rfl rfl rfl (by decide +kernel) ⟨by decide, by decide⟩) rfl hl.1 (Nat.le_of_ble_eq_true rfl) d_law_383 ⟨by show _ ≤ 600000; omega, by show _ ≤ 7302250; omega⟩ (fun H locs hw => ?_)
        have hw := zl_sw hw
        refine W.widen (k := 300 + (k + 1)) (n := 200000 + 5 * (k + 1)) (by omega) (by omega) ?_
        refine lv_icmp_eq hx hb d_law_386 (tgt := 546) rfl (fun _ => ?_) (fun h => absurd rfl h)
        exact next σ1 τ1 H locs hk1 hI hw
      by_cases hc9 : v = 9
      · refine lv_tableIn hx hb d_law_33 (tgt := 391) (by rw [hc9]; decide) (by rw [hc9]; decide) (by rw [hc9]; rfl) rfl ?_
        obtain ⟨r, σ1, τ1, g1, g2, hI⟩ := S9 (xs (nI (6 * k) + 1).toNatClampNeg) (xs (nI (6 * k) + 2).toNatClampNeg)
        refine lv_aload_n hx hb d_law_391 rfl (lv_at hl 2 rfl) ?_
        refine lv_aload_n hx hb d_law_392 rfl (lv_at hl 1 rfl) ?_
        refine lv_iload_n hx hb d_law_393 rfl (lv_at hl 0 rfl) ?_
        refine lv_iconst (v := 1) hx hb d_law_394 (by decide) ?_
        refine lv_iadd hx hb d_law_395 ?_
        refine va_sld hx hb hX hbl hbA hw.2.2 (zl_vi 1 hL (by omega) rfl) d_law_396 ?_
        refine lv_aload_n hx hb d_law_397 rfl (lv_at hl 1 rfl) ?_
        refine lv_iload_n hx hb d_law_398 rfl (lv_at hl 0 rfl) ?_
        refine lv_iconst (v := 2) hx hb d_law_399 (by decide) ?_
        refine lv_iadd hx hb d_law_400 ?_
        refine va_sld hx hb hX hbl hbA hw.2.2 (zl_vi 2 hL (by omega) rfl) d_law_401 ?_
        refine zl_call (w := 0) (v := 1) (ci := 0) (rest := []) SS H1 hap hw [.int (xs (nI (6 * k) + 1).toNatClampNeg), .int (xs (nI (6 * k) + 2).toNatClampNeg)] rfl rfl (zc_S_owner H1.2.1 g1) (cwV 2 hts (zs_gV zn5_75 zn5_76 zn5_77 zn5_4 zn5_74) rfl rfl rfl (by decide +kernel) ⟨by decide, by decide⟩) rfl hl.1 (Nat.le_of_ble_eq_true rfl) d_law_402 ⟨by show _ ≤ 600000; omega, by show _ ≤ 7302250; omega⟩ (fun H locs hw => ?_)
        refine lv_aload_n hx hb d_law_405 rfl (lv_at hl 3 rfl) ?_
        refine lv_aload_n hx hb d_law_406 rfl (lv_at hl 1 rfl) ?_
        refine lv_iload_n hx hb d_law_407 rfl (lv_at hl 0 rfl) ?_
        refine lv_iconst (v := 1) hx hb d_law_408 (by decide) ?_
        refine lv_iadd hx hb d_law_409 ?_
        refine va_sld hx hb hX hbl hbA hw.2.2 (zl_vi 1 hL (by omega) rfl) d_law_410 ?_
        refine lv_aload_n hx hb d_law_411 rfl (lv_at hl 1 rfl) ?_
        refine lv_iload_n hx hb d_law_412 rfl (lv_at hl 0 rfl) ?_
        refine lv_iconst (v := 2) hx hb d_law_413 (by decide) ?_
        refine lv_iadd hx hb d_law_414 ?_
        refine va_sld hx hb hX hbl hbA hw.2.2 (zl_vi 2 hL (by omega) rfl) d_law_415 ?_
        refine zl_call (w := 1) (v := 0) (ci := 8) (rest := [.int r]) SS H2 hap2 (zl_sw hw) [.int (xs (nI (6 * k) + 1).toNatClampNeg), .int (xs (nI (6 * k) + 2).toNatClampNeg)] rfl rfl (zc_M_owner H2.2.1 g2) (cwV 2 hts (zs_gV zn5_79 zn5_80 zn5_81 zn5_9 zn5_78) rfl rfl rfl (by decide +kernel) ⟨by decide, by decide⟩) rfl hl.1 (Nat.le_of_ble_eq_true rfl) d_law_416 ⟨by show _ ≤ 600000; omega, by show _ ≤ 7302250; omega⟩ (fun H locs hw => ?_)
        have hw := zl_sw hw
        refine W.widen (k := 300 + (k + 1)) (n := 200000 + 5 * (k + 1)) (by omega) (by omega) ?_
        refine lv_icmp_eq hx hb d_law_419 (tgt := 546) rfl (fun _ => ?_) (fun h => absurd rfl h)
        exact next σ1 τ1 H locs hk1 hI hw
      by_cases hc10 : v = 10
      · refine lv_tableIn hx hb d_law_33 (tgt := 424) (by rw [hc10]; decide) (by rw [hc10]; decide) (by rw [hc10]; rfl) rfl ?_
        obtain ⟨r, σ1, τ1, g1, g2, hI⟩ := S10 (xs (nI (6 * k) + 1).toNatClampNeg) (xs (nI (6 * k) + 2).toNatClampNeg)
        refine lv_aload_n hx hb d_law_424 rfl (lv_at hl 2 rfl) ?_
        refine lv_aload_n hx hb d_law_425 rfl (lv_at hl 1 rfl) ?_
        refine lv_iload_n hx hb d_law_426 rfl (lv_at hl 0 rfl) ?_
        refine lv_iconst (v := 1) hx hb d_law_427 (by decide) ?_
        refine lv_iadd hx hb d_law_428 ?_
        refine va_sld hx hb hX hbl hbA hw.2.2 (zl_vi 1 hL (by omega) rfl) d_law_429 ?_
        refine lv_aload_n hx hb d_law_430 rfl (lv_at hl 1 rfl) ?_
        refine lv_iload_n hx hb d_law_431 rfl (lv_at hl 0 rfl) ?_
        refine lv_iconst (v := 2) hx hb d_law_432 (by decide) ?_
        refine lv_iadd hx hb d_law_433 ?_
        refine va_sld hx hb hX hbl hbA hw.2.2 (zl_vi 2 hL (by omega) rfl) d_law_434 ?_
        refine zl_call (w := 0) (v := 1) (ci := 0) (rest := []) SS H1 hap hw [.int (xs (nI (6 * k) + 1).toNatClampNeg), .int (xs (nI (6 * k) + 2).toNatClampNeg)] rfl rfl (zc_S_waits H1.2.1 g1) (cwV 2 hts (zs_gV zn5_83 zn5_84 zn5_85 zn5_4 zn5_82) rfl rfl rfl (by decide +kernel) ⟨by decide, by decide⟩) rfl hl.1 (Nat.le_of_ble_eq_true rfl) d_law_435 ⟨by show _ ≤ 600000; omega, by show _ ≤ 7302250; omega⟩ (fun H locs hw => ?_)
        refine lv_aload_n hx hb d_law_438 rfl (lv_at hl 3 rfl) ?_
        refine lv_aload_n hx hb d_law_439 rfl (lv_at hl 1 rfl) ?_
        refine lv_iload_n hx hb d_law_440 rfl (lv_at hl 0 rfl) ?_
        refine lv_iconst (v := 1) hx hb d_law_441 (by decide) ?_
        refine lv_iadd hx hb d_law_442 ?_
        refine va_sld hx hb hX hbl hbA hw.2.2 (zl_vi 1 hL (by omega) rfl) d_law_443 ?_
        refine lv_aload_n hx hb d_law_444 rfl (lv_at hl 1 rfl) ?_
        refine lv_iload_n hx hb d_law_445 rfl (lv_at hl 0 rfl) ?_
        refine lv_iconst (v := 2) hx hb d_law_446 (by decide) ?_
        refine lv_iadd hx hb d_law_447 ?_
        refine va_sld hx hb hX hbl hbA hw.2.2 (zl_vi 2 hL (by omega) rfl) d_law_448 ?_
        refine zl_call (w := 1) (v := 0) (ci := 8) (rest := [.int r]) SS H2 hap2 (zl_sw hw) [.int (xs (nI (6 * k) + 1).toNatClampNeg), .int (xs (nI (6 * k) + 2).toNatClampNeg)] rfl rfl (zc_M_waits H2.2.1 g2) (cwV 2 hts (zs_gV zn5_87 zn5_88 zn5_89 zn5_9 zn5_86) rfl rfl rfl (by decide +kernel) ⟨by decide, by decide⟩) rfl hl.1 (Nat.le_of_ble_eq_true rfl) d_law_449 ⟨by show _ ≤ 600000; omega, by show _ ≤ 7302250; omega⟩ (fun H locs hw => ?_)
        have hw := zl_sw hw
        refine W.widen (k := 300 + (k + 1)) (n := 200000 + 5 * (k + 1)) (by omega) (by omega) ?_
        refine lv_icmp_eq hx hb d_law_452 (tgt := 546) rfl (fun _ => ?_) (fun h => absurd rfl h)
        exact next σ1 τ1 H locs hk1 hI hw
      by_cases hc11 : v = 11
      · refine lv_tableIn hx hb d_law_33 (tgt := 457) (by rw [hc11]; decide) (by rw [hc11]; decide) (by rw [hc11]; rfl) rfl ?_
        obtain ⟨r, σ1, τ1, g1, g2, hI⟩ := S11 (xs (nI (6 * k) + 1).toNatClampNeg) (xs (nI (6 * k) + 2).toNatClampNeg)
        refine lv_aload_n hx hb d_law_457 rfl (lv_at hl 2 rfl) ?_
        refine lv_aload_n hx hb d_law_458 rfl (lv_at hl 1 rfl) ?_
        refine lv_iload_n hx hb d_law_459 rfl (lv_at hl 0 rfl) ?_
        refine lv_iconst (v := 1) hx hb d_law_460 (by decide) ?_
        refine lv_iadd hx hb d_law_461 ?_
        refine va_sld hx hb hX hbl hbA hw.2.2 (zl_vi 1 hL (by omega) rfl) d_law_462 ?_
        refine lv_aload_n hx hb d_law_463 rfl (lv_at hl 1 rfl) ?_
        refine lv_iload_n hx hb d_law_464 rfl (lv_at hl 0 rfl) ?_
        refine lv_iconst (v := 2) hx hb d_law_465 (by decide) ?_
        refine lv_iadd hx hb d_law_466 ?_
        refine va_sld hx hb hX hbl hbA hw.2.2 (zl_vi 2 hL (by omega) rfl) d_law_467 ?_
        refine zl_call (w := 0) (v := 1) (ci := 0) (rest := []) SS H1 hap hw [.int (xs (nI (6 * k) + 1).toNatClampNeg), .int (xs (nI (6 * k) + 2).toNatClampNeg)] rfl rfl (zc_S_next H1.2.1 g1) (cwV 2 hts (zs_gV zn5_91 zn5_92 zn5_93 zn5_4 zn5_90) rfl rfl rfl (by decide +kernel) ⟨by decide, by decide⟩) rfl hl.1 (Nat.le_of_ble_eq_true rfl) d_law_468 ⟨by show _ ≤ 600000; omega, by show _ ≤ 7302250; omega⟩ (fun H locs hw => ?_)
        refine lv_aload_n hx hb d_law_471 rfl (lv_at hl 3 rfl) ?_
        refine lv_aload_n hx hb d_law_472 rfl (lv_at hl 1 rfl) ?_
        refine lv_iload_n hx hb d_law_473 rfl (lv_at hl 0 rfl) ?_
        refine lv_iconst (v := 1) hx hb d_law_474 (by decide) ?_
        refine lv_iadd hx hb d_law_475 ?_
        refine va_sld hx hb hX hbl hbA hw.2.2 (zl_vi 1 hL (by omega) rfl) d_law_476 ?_
        refine lv_aload_n hx hb d_law_477 rfl (lv_at hl 1 rfl) ?_
        refine lv_iload_n hx hb d_law_478 rfl (lv_at hl 0 rfl) ?_
        refine lv_iconst (v := 2) hx hb d_law_479 (by decide) ?_
        refine lv_iadd hx hb d_law_480 ?_
        refine va_sld hx hb hX hbl hbA hw.2.2 (zl_vi 2 hL (by omega) rfl) d_law_481 ?_
        refine zl_call (w := 1) (v := 0) (ci := 8) (rest := [.int r]) SS H2 hap2 (zl_sw hw) [.int (xs (nI (6 * k) + 1).toNatClampNeg), .int (xs (nI (6 * k) + 2).toNatClampNeg)] rfl rfl (zc_M_next H2.2.1 g2) (cwV 2 hts (zs_gV zn5_95 zn5_96 zn5_97 zn5_9 zn5_94) rfl rfl rfl (by decide +kernel) ⟨by decide, by decide⟩) rfl hl.1 (Nat.le_of_ble_eq_true rfl) d_law_482 ⟨by show _ ≤ 600000; omega, by show _ ≤ 7302250; omega⟩ (fun H locs hw => ?_)
        have hw := zl_sw hw
        refine W.widen (k := 300 + (k + 1)) (n := 200000 + 5 * (k + 1)) (by omega) (by omega) ?_
        refine lv_icmp_eq hx hb d_law_485 (tgt := 546) rfl (fun _ => ?_) (fun h => absurd rfl h)
        exact next σ1 τ1 H locs hk1 hI hw
      by_cases hc12 : v = 12
      · refine lv_tableIn hx hb d_law_33 (tgt := 490) (by rw [hc12]; decide) (by rw [hc12]; decide) (by rw [hc12]; rfl) rfl ?_
        obtain ⟨r, σ1, τ1, g1, g2, hI⟩ := S12 (xs (nI (6 * k) + 1).toNatClampNeg) (xs (nI (6 * k) + 2).toNatClampNeg)
        refine lv_aload_n hx hb d_law_490 rfl (lv_at hl 2 rfl) ?_
        refine lv_aload_n hx hb d_law_491 rfl (lv_at hl 1 rfl) ?_
        refine lv_iload_n hx hb d_law_492 rfl (lv_at hl 0 rfl) ?_
        refine lv_iconst (v := 1) hx hb d_law_493 (by decide) ?_
        refine lv_iadd hx hb d_law_494 ?_
        refine va_sld hx hb hX hbl hbA hw.2.2 (zl_vi 1 hL (by omega) rfl) d_law_495 ?_
        refine lv_aload_n hx hb d_law_496 rfl (lv_at hl 1 rfl) ?_
        refine lv_iload_n hx hb d_law_497 rfl (lv_at hl 0 rfl) ?_
        refine lv_iconst (v := 2) hx hb d_law_498 (by decide) ?_
        refine lv_iadd hx hb d_law_499 ?_
        refine va_sld hx hb hX hbl hbA hw.2.2 (zl_vi 2 hL (by omega) rfl) d_law_500 ?_
        refine zl_call (w := 0) (v := 1) (ci := 0) (rest := []) SS H1 hap hw [.int (xs (nI (6 * k) + 1).toNatClampNeg), .int (xs (nI (6 * k) + 2).toNatClampNeg)] rfl rfl (zc_S_outcome H1.2.1 g1) (cwV 2 hts (zs_gV zn5_99 zn5_100 zn5_101 zn5_4 zn5_98) rfl rfl rfl (by decide +kernel) ⟨by decide, by decide⟩) rfl hl.1 (Nat.le_of_ble_eq_true rfl) d_law_501 ⟨by show _ ≤ 600000; omega, by show _ ≤ 7302250; omega⟩ (fun H locs hw => ?_)
        refine lv_aload_n hx hb d_law_504 rfl (lv_at hl 3 rfl) ?_
        refine lv_aload_n hx hb d_law_505 rfl (lv_at hl 1 rfl) ?_
        refine lv_iload_n hx hb d_law_506 rfl (lv_at hl 0 rfl) ?_
        refine lv_iconst (v := 1) hx hb d_law_507 (by decide) ?_
        refine lv_iadd hx hb d_law_508 ?_
        refine va_sld hx hb hX hbl hbA hw.2.2 (zl_vi 1 hL (by omega) rfl) d_law_509 ?_
        refine lv_aload_n hx hb d_law_510 rfl (lv_at hl 1 rfl) ?_
        refine lv_iload_n hx hb d_law_511 rfl (lv_at hl 0 rfl) ?_
        refine lv_iconst (v := 2) hx hb d_law_512 (by decide) ?_
        refine lv_iadd hx hb d_law_513 ?_
        refine va_sld hx hb hX hbl hbA hw.2.2 (zl_vi 2 hL (by omega) rfl) d_law_514 ?_
        refine zl_call (w := 1) (v := 0) (ci := 8) (rest := [.int r]) SS H2 hap2 (zl_sw hw) [.int (xs (nI (6 * k) + 1).toNatClampNeg), .int (xs (nI (6 * k) + 2).toNatClampNeg)] rfl rfl (zc_M_outcome H2.2.1 g2) (cwV 2 hts (zs_gV zn5_103 zn5_104 zn5_105 zn5_9 zn5_102) rfl rfl rfl (by decide +kernel) ⟨by decide, by decide⟩) rfl hl.1 (Nat.le_of_ble_eq_true rfl) d_law_515 ⟨by show _ ≤ 600000; omega, by show _ ≤ 7302250; omega⟩ (fun H locs hw => ?_)
        have hw := zl_sw hw
        refine W.widen (k := 300 + (k + 1)) (n := 200000 + 5 * (k + 1)) (by omega) (by omega) ?_
        refine lv_icmp_eq hx hb d_law_518 (tgt := 546) rfl (fun _ => ?_) (fun h => absurd rfl h)
        exact next σ1 τ1 H locs hk1 hI hw
      by_cases hc13 : v = 13
      · refine lv_tableIn hx hb d_law_33 (tgt := 523) (by rw [hc13]; decide) (by rw [hc13]; decide) (by rw [hc13]; rfl) rfl ?_
        obtain ⟨r, σ1, τ1, g1, g2, hI⟩ := S13 (xs (nI (6 * k) + 1).toNatClampNeg)
        refine lv_aload_n hx hb d_law_523 rfl (lv_at hl 2 rfl) ?_
        refine lv_aload_n hx hb d_law_524 rfl (lv_at hl 1 rfl) ?_
        refine lv_iload_n hx hb d_law_525 rfl (lv_at hl 0 rfl) ?_
        refine lv_iconst (v := 1) hx hb d_law_526 (by decide) ?_
        refine lv_iadd hx hb d_law_527 ?_
        refine va_sld hx hb hX hbl hbA hw.2.2 (zl_vi 1 hL (by omega) rfl) d_law_528 ?_
        refine zl_call (w := 0) (v := 1) (ci := 0) (rest := []) SS H1 hap hw [.int (xs (nI (6 * k) + 1).toNatClampNeg)] rfl rfl (zc_S_race H1.2.1 g1) (cwV 1 hts (zs_gV zn5_107 zn5_108 zn5_109 zn5_4 zn5_106) rfl rfl rfl (by decide +kernel) ⟨by decide, by decide⟩) rfl hl.1 (Nat.le_of_ble_eq_true rfl) d_law_529 ⟨by show _ ≤ 600000; omega, by show _ ≤ 7302250; omega⟩ (fun H locs hw => ?_)
        refine lv_aload_n hx hb d_law_532 rfl (lv_at hl 3 rfl) ?_
        refine lv_aload_n hx hb d_law_533 rfl (lv_at hl 1 rfl) ?_
        refine lv_iload_n hx hb d_law_534 rfl (lv_at hl 0 rfl) ?_
        refine lv_iconst (v := 1) hx hb d_law_535 (by decide) ?_
        refine lv_iadd hx hb d_law_536 ?_
        refine va_sld hx hb hX hbl hbA hw.2.2 (zl_vi 1 hL (by omega) rfl) d_law_537 ?_
        refine zl_call (w := 1) (v := 0) (ci := 8) (rest := [.int r]) SS H2 hap2 (zl_sw hw) [.int (xs (nI (6 * k) + 1).toNatClampNeg)] rfl rfl (zc_M_race H2.2.1 g2) (cwV 1 hts (zs_gV zn5_111 zn5_112 zn5_113 zn5_9 zn5_110) rfl rfl rfl (by decide +kernel) ⟨by decide, by decide⟩) rfl hl.1 (Nat.le_of_ble_eq_true rfl) d_law_538 ⟨by show _ ≤ 600000; omega, by show _ ≤ 7302250; omega⟩ (fun H locs hw => ?_)
        have hw := zl_sw hw
        refine W.widen (k := 300 + (k + 1)) (n := 200000 + 5 * (k + 1)) (by omega) (by omega) ?_
        refine lv_icmp_eq hx hb d_law_541 (tgt := 546) rfl (fun _ => ?_) (fun h => absurd rfl h)
        exact next σ1 τ1 H locs hk1 hI hw
      refine lv_tableOut hx hb d_law_33 (tgt := 546) (by have g0 := zq_o1 (lo := 0) (by decide) hc0; have g1 := zq_o1 (lo := 1) (by decide) hc1; have g2 := zq_o1 (lo := 2) (by decide) hc2; have g3 := zq_o1 (lo := 3) (by decide) hc3; have g4 := zq_o1 (lo := 4) (by decide) hc4; have g5 := zq_o1 (lo := 5) (by decide) hc5; have g6 := zq_o1 (lo := 6) (by decide) hc6; have g7 := zq_o1 (lo := 7) (by decide) hc7; have g8 := zq_o1 (lo := 8) (by decide) hc8; have g9 := zq_o1 (lo := 9) (by decide) hc9; have g10 := zq_o1 (lo := 10) (by decide) hc10; have g11 := zq_o1 (lo := 11) (by decide) hc11; have g12 := zq_o1 (lo := 12) (by decide) hc12; have g13 := zq_o1 (lo := 13) (by decide) hc13; omega) rfl ?_
      refine W.widen (k := 300 + (k + 1)) (n := 200000 + 5 * (k + 1)) (by omega) (by omega) ?_
      exact next σ τ H locs hk1 S14 hw
