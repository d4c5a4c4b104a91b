theorem zm_543 : Cond.fieldLink "ScheduleCheckModel" 139 "ScheduleCheckModel" "fault" "I" ∈ zd_ww := zd_me 897 (by decide +kernel) (by decide +kernel)
theorem zm_544 : Cond.fieldLink "ScheduleCheckModel" 72 "ScheduleCheckModel" "from" "I" ∈ zd_ww := zd_me 894 (by decide +kernel) (by decide +kernel)
theorem zm_545 : Cond.fieldLink "ScheduleCheckModel" 66 "ScheduleCheckModel" "next" "I" ∈ zd_ww := zd_me 892 (by decide +kernel) (by decide +kernel)
theorem zm_546 : Cond.fieldLink "ScheduleCheckModel" 69 "ScheduleCheckModel" "size" "I" ∈ zd_ww := zd_me 891 (by decide +kernel) (by decide +kernel)
theorem zm_547 : Cond.fieldLink "ScheduleCheckModel" 9 "ScheduleCheckModel" "tape" "[B" ∈ zd_ww := zd_me 886 (by decide +kernel) (by decide +kernel)
theorem zm_548 : Cond.code ⟨"ScheduleCheckModel","isSmall","(I)Z"⟩ prog_13_method_5_code 1 (Option.some FieldType.boolean) ∈ zd_ww := zd_me 1006 (by decide +kernel) (by decide +kernel)
theorem zm_549 : Cond.methodLink "ScheduleCheckModel" 78 ⟨"ScheduleCheckModel","isSmall","(I)Z"⟩ ∈ zd_ww := zd_me 1004 (by decide +kernel) (by decide +kernel)
theorem zm_550 : Cond.static ⟨"ScheduleCheckModel","isSmall","(I)Z"⟩ ∈ zd_ww := zd_me 1005 (by decide +kernel) (by decide +kernel)
theorem zm_551 : Cond.initialized "ScheduleCheckModel" ∈ zd_ww := zd_me 11 (by decide +kernel) (by decide +kernel)
theorem zm_552 : Cond.code ⟨"ScheduleCheckModel","isDigit","(I)Z"⟩ prog_13_method_6_code 1 (Option.some FieldType.boolean) ∈ zd_ww := zd_me 1009 (by decide +kernel) (by decide +kernel)
theorem zm_553 : Cond.methodLink "ScheduleCheckModel" 82 ⟨"ScheduleCheckModel","isDigit","(I)Z"⟩ ∈ zd_ww := zd_me 1007 (by decide +kernel) (by decide +kernel)
theorem zm_554 : Cond.static ⟨"ScheduleCheckModel","isDigit","(I)Z"⟩ ∈ zd_ww := zd_me 1008 (by decide +kernel) (by decide +kernel)
theorem zm_555 : Cond.fieldLink "ScheduleCheckModel" 85 "ScheduleCheckModel" "number" "I" ∈ zd_ww := zd_me 896 (by decide +kernel) (by decide +kernel)
theorem zm_556 : Cond.fieldLink "ScheduleCheckModel" 75 "ScheduleCheckModel" "kind" "I" ∈ zd_ww := zd_me 893 (by decide +kernel) (by decide +kernel)
theorem zm_557 : Cond.methodLink "ScheduleCheckModel" 88 ⟨"java/lang/Math","min","(II)I"⟩ ∈ zd_ww := zd_me 1010 (by decide +kernel) (by decide +kernel)
theorem zm_558 : Cond.fieldLink "ScheduleCheckModel" 94 "ScheduleCheckModel" "to" "I" ∈ zd_ww := zd_me 895 (by decide +kernel) (by decide +kernel)
theorem zm_559 : Cond.code ⟨"java/lang/String","length","()I"⟩ prog_18_method_54_code 1 (Option.some FieldType.int) ∈ zd_ww := zd_me 1019 (by decide +kernel) (by decide +kernel)
theorem zm_560 : Cond.methodLink "ScheduleCheckModel" 97 ⟨"java/lang/String","length","()I"⟩ ∈ zd_ww := zd_me 1016 (by decide +kernel) (by decide +kernel)
theorem zm_561 : Cond.instanceMethod ⟨"java/lang/String","length","()I"⟩ ∈ zd_ww := zd_me 1017 (by decide +kernel) (by decide +kernel)
theorem zm_562 : Cond.selects "java/lang/String" ⟨"java/lang/String","length","()I"⟩ ⟨"java/lang/String","length","()I"⟩ ∈ zd_ww := zd_me 1018 (by decide +kernel) (by decide +kernel)
theorem zm_563 : Cond.code ⟨"java/lang/String","charAt","(I)C"⟩ prog_18_method_56_code 2 (Option.some FieldType.char) ∈ zd_ww := zd_me 1029 (by decide +kernel) (by decide +kernel)
theorem zm_564 : Cond.methodLink "ScheduleCheckModel" 103 ⟨"java/lang/String","charAt","(I)C"⟩ ∈ zd_ww := zd_me 1026 (by decide +kernel) (by decide +kernel)
theorem zm_565 : Cond.instanceMethod ⟨"java/lang/String","charAt","(I)C"⟩ ∈ zd_ww := zd_me 1027 (by decide +kernel) (by decide +kernel)
theorem zm_566 : Cond.selects "java/lang/String" ⟨"java/lang/String","charAt","(I)C"⟩ ⟨"java/lang/String","charAt","(I)C"⟩ ∈ zd_ww := zd_me 1028 (by decide +kernel) (by decide +kernel)
theorem zm_567 : Cond.code ⟨"ScheduleCheckModel","is","(Ljava/lang/String;)Z"⟩ prog_13_method_8_code 3 (Option.some FieldType.boolean) ∈ zd_ww := zd_me 1015 (by decide +kernel) (by decide +kernel)
theorem zm_568 : Cond.methodLink "ScheduleCheckModel" 109 ⟨"ScheduleCheckModel","is","(Ljava/lang/String;)Z"⟩ ∈ zd_ww := zd_me 1012 (by decide +kernel) (by decide +kernel)
theorem zm_569 : Cond.instanceMethod ⟨"ScheduleCheckModel","is","(Ljava/lang/String;)Z"⟩ ∈ zd_ww := zd_me 1014 (by decide +kernel) (by decide +kernel)
theorem zm_570 : Cond.selects "ScheduleCheckModel" ⟨"ScheduleCheckModel","is","(Ljava/lang/String;)Z"⟩ ⟨"ScheduleCheckModel","is","(Ljava/lang/String;)Z"⟩ ∈ zd_ww := zd_ms 50 (by decide +kernel) (by decide +kernel)
theorem zm_571 : Cond.code ⟨"ScheduleCheckModel","step","()V"⟩ prog_13_method_7_code 5 none ∈ zd_ww := zd_me 1003 (by decide +kernel) (by decide +kernel)
theorem zm_572 : Cond.methodLink "ScheduleCheckModel" 146 ⟨"ScheduleCheckModel","step","()V"⟩ ∈ zd_ww := zd_me 1000 (by decide +kernel) (by decide +kernel)
theorem zm_573 : Cond.instanceMethod ⟨"ScheduleCheckModel","step","()V"⟩ ∈ zd_ww := zd_me 1002 (by decide +kernel) (by decide +kernel)
theorem zm_574 : Cond.selects "ScheduleCheckModel" ⟨"ScheduleCheckModel","step","()V"⟩ ⟨"ScheduleCheckModel","step","()V"⟩ ∈ zd_ww := zd_ms 49 (by decide +kernel) (by decide +kernel)
theorem zm_575 : Cond.code ⟨"ScheduleCheckModel","bad","()Z"⟩ prog_13_method_10_code 1 (Option.some FieldType.boolean) ∈ zd_ww := zd_me 1092 (by decide +kernel) (by decide +kernel)
theorem zm_576 : Cond.methodLink "ScheduleCheckModel" 142 ⟨"ScheduleCheckModel","bad","()Z"⟩ ∈ zd_ww := zd_me 1089 (by decide +kernel) (by decide +kernel)
theorem zm_577 : Cond.instanceMethod ⟨"ScheduleCheckModel","bad","()Z"⟩ ∈ zd_ww := zd_me 1091 (by decide +kernel) (by decide +kernel)
theorem zm_578 : Cond.selects "ScheduleCheckModel" ⟨"ScheduleCheckModel","bad","()Z"⟩ ⟨"ScheduleCheckModel","bad","()Z"⟩ ∈ zd_ww := zd_ms 53 (by decide +kernel) (by decide +kernel)
theorem zm_579 : Cond.fieldLink "ScheduleCheckModel$Names" 19 "ScheduleCheckModel$Names" "many" "I" ∈ zd_ww := zd_me 826 (by decide +kernel) (by decide +kernel)
theorem zm_580 : Cond.fieldLink "ScheduleCheckModel$Names" 15 "ScheduleCheckModel$Names" "size" "[I" ∈ zd_ww := zd_me 824 (by decide +kernel) (by decide +kernel)
theorem zm_581 : Cond.fieldLink "ScheduleCheckModel$Names" 9 "ScheduleCheckModel$Names" "text" "[B" ∈ zd_ww := zd_me 823 (by decide +kernel) (by decide +kernel)
theorem zm_582 : Cond.methodLink "ScheduleCheckModel$Names" 23 ⟨"java/lang/System","arraycopy","(Ljava/lang/Object;ILjava/lang/Object;II)V"⟩ ∈ zd_ww := zd_me 1097 (by decide +kernel) (by decide +kernel)
theorem zm_583 : Cond.fieldLink "ScheduleCheckModel" 149 "ScheduleCheckModel" "p" "LScheduleCheckModel$Program;" ∈ zd_ww := zd_me 898 (by decide +kernel) (by decide +kernel)
theorem zm_584 : Cond.fieldLink "ScheduleCheckModel" 247 "ScheduleCheckModel$Program" "step" "[I" ∈ zd_ww := zd_me 857 (by decide +kernel) (by decide +kernel)
theorem zm_585 : Cond.fieldLink "ScheduleCheckModel" 170 "ScheduleCheckModel$Program" "many" "I" ∈ zd_ww := zd_me 858 (by decide +kernel) (by decide +kernel)
theorem zm_586 : Cond.fieldLink "ScheduleCheckModel" 174 "ScheduleCheckModel" "opened" "I" ∈ zd_ww := zd_me 902 (by decide +kernel) (by decide +kernel)
theorem zm_587 : Cond.fieldLink "ScheduleCheckModel" 23 "ScheduleCheckModel" "open" "[I" ∈ zd_ww := zd_me 901 (by decide +kernel) (by decide +kernel)
theorem zm_588 : Cond.fieldLink "ScheduleCheckModel" 225 "ScheduleCheckModel$Program" "to" "[I" ∈ zd_ww := zd_me 855 (by decide +kernel) (by decide +kernel)
theorem zm_589 : Cond.fieldLink "ScheduleCheckModel" 222 "ScheduleCheckModel$Program" "start" "[I" ∈ zd_ww := zd_me 845 (by decide +kernel) (by decide +kernel)
theorem zm_590 : Cond.fieldLink "ScheduleCheckModel" 161 "ScheduleCheckModel$Program" "locks" "LScheduleCheckModel$Names;" ∈ zd_ww := zd_me 839 (by decide +kernel) (by decide +kernel)
theorem zm_591 : Cond.fieldLink "ScheduleCheckModel" 152 "ScheduleCheckModel$Program" "variables" "LScheduleCheckModel$Names;" ∈ zd_ww := zd_me 837 (by decide +kernel) (by decide +kernel)
theorem zm_592 : Cond.code ⟨"ScheduleCheckModel","isName","()Z"⟩ prog_13_method_9_code 2 (Option.some FieldType.boolean) ∈ zd_ww := zd_me 1072 (by decide +kernel) (by decide +kernel)
theorem zm_593 : Cond.methodLink "ScheduleCheckModel" 183 ⟨"ScheduleCheckModel","isName","()Z"⟩ ∈ zd_ww := zd_me 1069 (by decide +kernel) (by decide +kernel)
theorem zm_594 : Cond.instanceMethod ⟨"ScheduleCheckModel","isName","()Z"⟩ ∈ zd_ww := zd_me 1071 (by decide +kernel) (by decide +kernel)
theorem zm_595 : Cond.selects "ScheduleCheckModel" ⟨"ScheduleCheckModel","isName","()Z"⟩ ⟨"ScheduleCheckModel","isName","()Z"⟩ ∈ zd_ww := zd_ms 52 (by decide +kernel) (by decide +kernel)
theorem zm_596 : Cond.fieldLink "ScheduleCheckModel" 156 "ScheduleCheckModel$Names" "many" "I" ∈ zd_ww := zd_me 827 (by decide +kernel) (by decide +kernel)
theorem zm_597 : Cond.fieldLink "ScheduleCheckModel" 186 "ScheduleCheckModel$Names" "size" "[I" ∈ zd_ww := zd_me 825 (by decide +kernel) (by decide +kernel)
theorem zm_598 : Cond.code ⟨"ScheduleCheckModel$Names","find","([BII)I"⟩ prog_14_method_2_code 7 (Option.some FieldType.int) ∈ zd_ww := zd_me 1088 (by decide +kernel) (by decide +kernel)
theorem zm_599 : Cond.methodLink "ScheduleCheckModel" 188 ⟨"ScheduleCheckModel$Names","find","([BII)I"⟩ ∈ zd_ww := zd_me 1085 (by decide +kernel) (by decide +kernel)
theorem zm_600 : Cond.instanceMethod ⟨"ScheduleCheckModel$Names","find","([BII)I"⟩ ∈ zd_ww := zd_me 1086 (by decide +kernel) (by decide +kernel)
theorem zm_601 : Cond.selects "ScheduleCheckModel$Names" ⟨"ScheduleCheckModel$Names","find","([BII)I"⟩ ⟨"ScheduleCheckModel$Names","find","([BII)I"⟩ ∈ zd_ww := zd_me 1087 (by decide +kernel) (by decide +kernel)
theorem zm_602 : Cond.initialized "ScheduleCheckModel$Names" ∈ zd_ww := zd_me 13 (by decide +kernel) (by decide +kernel)
theorem zm_603 : Cond.code ⟨"ScheduleCheckModel$Names","add","([BII)V"⟩ prog_14_method_3_code 4 none ∈ zd_ww := zd_me 1096 (by decide +kernel) (by decide +kernel)
theorem zm_604 : Cond.methodLink "ScheduleCheckModel" 192 ⟨"ScheduleCheckModel$Names","add","([BII)V"⟩ ∈ zd_ww := zd_me 1093 (by decide +kernel) (by decide +kernel)
theorem zm_605 : Cond.instanceMethod ⟨"ScheduleCheckModel$Names","add","([BII)V"⟩ ∈ zd_ww := zd_me 1094 (by decide +kernel) (by decide +kernel)
theorem zm_606 : Cond.selects "ScheduleCheckModel$Names" ⟨"ScheduleCheckModel$Names","add","([BII)V"⟩ ⟨"ScheduleCheckModel$Names","add","([BII)V"⟩ ∈ zd_ww := zd_me 1095 (by decide +kernel) (by decide +kernel)
theorem zm_607 : Cond.fieldLink "ScheduleCheckModel" 196 "ScheduleCheckModel$Program" "initial" "[I" ∈ zd_ww := zd_me 843 (by decide +kernel) (by decide +kernel)
theorem zm_608 : Cond.code ⟨"ScheduleCheckModel","take","(Ljava/lang/String;)Z"⟩ prog_13_method_11_code 2 (Option.some FieldType.boolean) ∈ zd_ww := zd_me 1104 (by decide +kernel) (by decide +kernel)
theorem zm_609 : Cond.methodLink "ScheduleCheckModel" 205 ⟨"ScheduleCheckModel","take","(Ljava/lang/String;)Z"⟩ ∈ zd_ww := zd_me 1101 (by decide +kernel) (by decide +kernel)
theorem zm_610 : Cond.instanceMethod ⟨"ScheduleCheckModel","take","(Ljava/lang/String;)Z"⟩ ∈ zd_ww := zd_me 1103 (by decide +kernel) (by decide +kernel)
theorem zm_611 : Cond.selects "ScheduleCheckModel" ⟨"ScheduleCheckModel","take","(Ljava/lang/String;)Z"⟩ ⟨"ScheduleCheckModel","take","(Ljava/lang/String;)Z"⟩ ∈ zd_ww := zd_ms 54 (by decide +kernel) (by decide +kernel)
theorem zm_612 : Cond.fieldLink "ScheduleCheckModel" 58 "ScheduleCheckModel" "tapeMany" "I" ∈ zd_ww := zd_me 887 (by decide +kernel) (by decide +kernel)
theorem zm_613 : Cond.code ⟨"ScheduleCheckModel","in","(III)Z"⟩ prog_13_method_1_code 3 (Option.some FieldType.boolean) ∈ zd_ww := zd_me 991 (by decide +kernel) (by decide +kernel)
theorem zm_614 : Cond.methodLink "ScheduleCheckModel" 62 ⟨"ScheduleCheckModel","in","(III)Z"⟩ ∈ zd_ww := zd_me 989 (by decide +kernel) (by decide +kernel)
theorem zm_615 : Cond.static ⟨"ScheduleCheckModel","in","(III)Z"⟩ ∈ zd_ww := zd_me 990 (by decide +kernel) (by decide +kernel)
/-! java/util/Arrays.fill -/
def y_Arrays_fillI1 : MethodName := ⟨"java/util/Arrays","fill","([II)V"⟩
theorem d_Arrays_fillI1_0 : decode prog_22_method_103_code 0 = .ok (.iconst 0, 1) := by decide +kernel
theorem d_Arrays_fillI1_1 : decode prog_22_method_103_code 1 = .ok (.istore_n 2, 1) := by decide +kernel
theorem d_Arrays_fillI1_2 : decode prog_22_method_103_code 2 = .ok (.aload_n 0, 1) := by decide +kernel
theorem d_Arrays_fillI1_3 : decode prog_22_method_103_code 3 = .ok (.arraylength, 1) := by decide +kernel
theorem d_Arrays_fillI1_4 : decode prog_22_method_103_code 4 = .ok (.istore_n 3, 1) := by decide +kernel
theorem d_Arrays_fillI1_5 : decode prog_22_method_103_code 5 = .ok (.iload_n 2, 1) := by decide +kernel
theorem d_Arrays_fillI1_6 : decode prog_22_method_103_code 6 = .ok (.iload_n 3, 1) := by decide +kernel
theorem d_Arrays_fillI1_7 : decode prog_22_method_103_code 7 = .ok (.if_icmp .ge 13, 3) := by decide +kernel
theorem d_Arrays_fillI1_10 : decode prog_22_method_103_code 10 = .ok (.aload_n 0, 1) := by decide +kernel
theorem d_Arrays_fillI1_11 : decode prog_22_method_103_code 11 = .ok (.iload_n 2, 1) := by decide +kernel
theorem d_Arrays_fillI1_12 : decode prog_22_method_103_code 12 = .ok (.iload_n 1, 1) := by decide +kernel
theorem d_Arrays_fillI1_13 : decode prog_22_method_103_code 13 = .ok (.iastore, 1) := by decide +kernel
theorem d_Arrays_fillI1_14 : decode prog_22_method_103_code 14 = .ok (.iinc 2 1, 3) := by decide +kernel
theorem d_Arrays_fillI1_17 : decode prog_22_method_103_code 17 = .ok (.goto (-12), 3) := by decide +kernel
theorem d_Arrays_fillI1_20 : decode prog_22_method_103_code 20 = .ok (.return_, 1) := by decide +kernel
def zf_Arrays_fillI1_5 (F : Nat)  : Nat → Nat → Int32 → Int32 → Int32 → zs_S → Option (zs_S)
  | 0, _, _, _, _, _ => none
  | n + 1, x0, x1, x2, x3, σ =>
    if x3 ≤ x2 then (
      some σ
    ) else (
      zq_g (zq_k 1 x0 0) <|
      zq_g (zq_b x2 (zd_sh 1 x0).2) <|
      zq_v (zs_wi σ x0 ((x2).toNatClampNeg) x1) fun σ5 =>
      zq_v (x2 + 1) fun v6 =>
      (zf_Arrays_fillI1_5 F n) x0 x1 v6 x3 σ5
    )
def zf_Arrays_fillI1 (F : Nat) (x0 : Nat) (x1 : Int32) (σ : zs_S) : Option (zs_S) :=
  zq_g (zq_k 1 x0 0) <|
  zq_v (nI (zd_sh 1 x0).2) fun v2 =>
  zf_Arrays_fillI1_5 F F x0 x1 0 v2 σ
set_option maxHeartbeats 4000000 in
set_option maxRecDepth 100000 in
theorem zc_Arrays_fillI1 {l : Launch} {D : va_G} {cA : Nat → ClassId} {ad : Nat → Nat} {A : Nat → Prop} {F : Nat} {x0 : Nat} {x1 : Int32} {σ : zs_S} {q : zs_S} (hJ : zs_J ad) (hf : zf_Arrays_fillI1 F x0 x1 σ = some q) : Met l y_Arrays_fillI1 (.code y_Arrays_fillI1 prog_22_method_103_code 4 none :: zd_ww) { frames := 0, cells := 0, slots := 0, locals := 0 } (va_Pc [.ref (ad x0), .int x1] (zs_U 1 D cA ad A σ)) (zs_Qv 1 D cA ad A q) 0 0 A := by
  refine Met.ofW (cc := prog_22_method_103_code) (maxL := 4) (ret := none) (by decide) rfl ?_
  intro p e s m args below meth c s₁ B hml hv
  obtain ⟨hargs, hP, hK, hD, hZ⟩ := hv
  have G : zs_G 1 p s m args c prog_22_method_103_code 4 "java/util/Arrays" D cA ad A := ⟨⟨B.exec, B.bytes, hml, findClass_of_methodNamed B.named, fun w h => atoms_spec B.pre w (List.mem_cons_of_mem _ h)⟩, hK, hJ, hZ⟩
  have hw : zs_I 1 D cA ad A s σ s.heap [] := ⟨hP, hD, va_S.rf⟩
  have hx := G.1.1
  have hb := G.1.2.1
  have hown := G.1.2.2.2.1
  have hts := G.1.2.2.2.2
  have hr := B.returns
  have hlocks := B.notSynchronized
  have he : entryFrame m args 4 = F0 m 0 ((lg_sl [.ref (ad x0), .int x1] ++ List.replicate (4 - (lg_sl [.ref (ad x0), .int x1]).length) Slot.unset).toArray) [] := by rw [hargs]; exact lg_entry_eq m _ 4
  have hl := lv_entry [.ref (ad x0), .int x1] (n := 4) (Nat.le_of_ble_eq_true rfl)
  rw [he]
  generalize (lg_sl [.ref (ad x0), .int x1] ++ List.replicate (4 - (lg_sl [.ref (ad x0), .int x1]).length) Slot.unset).toArray = ls at hl
  have hl : lv_has ls 4 [(0, .ref (ad x0)), (1, .int x1)] := hl
  obtain ⟨RR, hR⟩ : ∃ z, z = (headSpec (.code y_Arrays_fillI1 prog_22_method_103_code 4 none :: zd_ww) { frames := 0, cells := 0, slots := 0, locals := 0 }).room := ⟨_, rfl⟩
  rw [← hR]
  obtain ⟨QQ, hQ⟩ : ∃ z, z = MQ below (zs_Qv 1 D cA ad A q) args s 0 0 A := ⟨_, rfl⟩
  rw [← hQ]
  have hR1 : 0 ≤ RR.frames := by rw [hR]; exact Nat.le_refl _
  have hR2 : 0 ≤ RR.locals := by rw [hR]; exact Nat.le_refl _
  generalize s.heap = H at hw ⊢
  generalize ([] : List Loc) = locs at hw ⊢
  have K5 : ∀ (n : Nat) (x0 : Nat) (x1 : Int32) (x2 : Int32) (x3 : Int32) (σ : zs_S) (H : Heap) (locs : List Loc) (ls : Array Slot), zf_Arrays_fillI1_5 F n x0 x1 x2 x3 σ = some q → zs_I 1 D cA ad A s σ H locs → lv_has ls 4 [(0, .ref (ad x0)), (1, .int x1), (2, .int x2), (3, .int x3)] → W p l e RR s m args below meth c H locs 0 0 QQ (F0 m 5 ls []) := by
    intro  n
    induction n with
    | zero => intro x0 x1 x2 x3 σ H locs ls hf hw hl; exact nomatch (show (none : Option (zs_S)) = some q from hf)
    | succ n ih =>
      intro x0 x1 x2 x3 σ H locs ls hf hw hl
      rw [zf_Arrays_fillI1_5] at hf
      refine lv_iload_n hx hb d_Arrays_fillI1_5 rfl (lv_at hl 2 rfl) ?_
      refine lv_iload_n hx hb d_Arrays_fillI1_6 rfl (lv_at hl 3 rfl) ?_
      refine lv_icmp_ge hx hb d_Arrays_fillI1_7 (tgt := 20) rfl (fun hc => ?_) (fun hc => ?_)
      · have hf := (if_pos hc).symm.trans hf
        exact zr_vret G hw hr hlocks hf hQ d_Arrays_fillI1_20
      · have hf := (if_neg hc).symm.trans hf
        refine lv_aload_n hx hb d_Arrays_fillI1_10 rfl (lv_at hl 0 rfl) ?_
        refine lv_iload_n hx hb d_Arrays_fillI1_11 rfl (lv_at hl 2 rfl) ?_
        refine lv_iload_n hx hb d_Arrays_fillI1_12 rfl (lv_at hl 1 rfl) ?_
        obtain ⟨hs3, hf⟩ := zq_gs hf
        have hs3 := zq_ks hs3
        obtain ⟨hi4, hf⟩ := zq_gs hf
        obtain ⟨σ5, e_σ5, hf⟩ := zq_ss hf
        refine zr_iast G hw x0 hs3 rfl  hi4  d_Arrays_fillI1_13 (fun H locs hw => ?_)
        rw [← e_σ5] at hw
        obtain ⟨v6, e_v6, hf⟩ := zq_ss hf
        refine lv_iinc (v := v6) hx hb d_Arrays_fillI1_14 hl (k := 2) rfl (zq_inc (k := 1) (by decide) e_v6) (by decide) rfl (fun ls hl => ?_)
        have hl : lv_has ls 4 [(2, .int v6), (0, .ref (ad x0)), (1, .int x1), (3, .int x3)] := hl
        refine lv_goto hx hb d_Arrays_fillI1_17 (tgt := 5) rfl ?_
        exact ih x0 x1 v6 x3 σ5 H locs ls hf hw (lv_sub hl [1, 2, 0, 3] rfl)
  unfold zf_Arrays_fillI1 at hf
  refine lv_iconst (v := 0) hx hb d_Arrays_fillI1_0 (by decide) ?_
  refine lv_istore_n hx hb d_Arrays_fillI1_1 rfl hl (by decide) rfl (fun ls hl => ?_)
  have hl : lv_has ls 4 [(2, .int 0), (0, .ref (ad x0)), (1, .int x1)] := hl
  refine lv_aload_n hx hb d_Arrays_fillI1_2 rfl (lv_at hl 1 rfl) ?_
  obtain ⟨hs1, hf⟩ := zq_gs hf
  have hs1 := zq_ks hs1
  refine zr_alen G hw x0 hs1 (by decide) rfl d_Arrays_fillI1_3 ?_
  refine lv_topi (fun v2 e_v2 => ?_)
  have hf := zq_vs e_v2 hf
  refine lv_istore_n hx hb d_Arrays_fillI1_4 rfl hl (by decide) rfl (fun ls hl => ?_)
  have hl : lv_has ls 4 [(3, .int v2), (2, .int 0), (0, .ref (ad x0)), (1, .int x1)] := hl
  exact K5 F x0 x1 0 v2 σ H locs ls hf hw (lv_sub hl [2, 3, 1, 0] rfl)
/-! java/util/Arrays.fill -/
def y_Arrays_fillZ1 : MethodName := ⟨"java/util/Arrays","fill","([ZZ)V"⟩
theorem d_Arrays_fillZ1_0 : decode prog_22_method_111_code 0 = .ok (.iconst 0, 1) := by decide +kernel
theorem d_Arrays_fillZ1_1 : decode prog_22_method_111_code 1 = .ok (.istore_n 2, 1) := by decide +kernel
theorem d_Arrays_fillZ1_2 : decode prog_22_method_111_code 2 = .ok (.aload_n 0, 1) := by decide +kernel
theorem d_Arrays_fillZ1_3 : decode prog_22_method_111_code 3 = .ok (.arraylength, 1) := by decide +kernel
theorem d_Arrays_fillZ1_4 : decode prog_22_method_111_code 4 = .ok (.istore_n 3, 1) := by decide +kernel
theorem d_Arrays_fillZ1_5 : decode prog_22_method_111_code 5 = .ok (.iload_n 2, 1) := by decide +kernel
theorem d_Arrays_fillZ1_6 : decode prog_22_method_111_code 6 = .ok (.iload_n 3, 1) := by decide +kernel
theorem d_Arrays_fillZ1_7 : decode prog_22_method_111_code 7 = .ok (.if_icmp .ge 13, 3) := by decide +kernel
theorem d_Arrays_fillZ1_10 : decode prog_22_method_111_code 10 = .ok (.aload_n 0, 1) := by decide +kernel
theorem d_Arrays_fillZ1_11 : decode prog_22_method_111_code 11 = .ok (.iload_n 2, 1) := by decide +kernel
theorem d_Arrays_fillZ1_12 : decode prog_22_method_111_code 12 = .ok (.iload_n 1, 1) := by decide +kernel
theorem d_Arrays_fillZ1_13 : decode prog_22_method_111_code 13 = .ok (.bastore, 1) := by decide +kernel
theorem d_Arrays_fillZ1_14 : decode prog_22_method_111_code 14 = .ok (.iinc 2 1, 3) := by decide +kernel
theorem d_Arrays_fillZ1_17 : decode prog_22_method_111_code 17 = .ok (.goto (-12), 3) := by decide +kernel
theorem d_Arrays_fillZ1_20 : decode prog_22_method_111_code 20 = .ok (.return_, 1) := by decide +kernel
def zf_Arrays_fillZ1_5 (F : Nat)  : Nat → Nat → Int32 → Int32 → Int32 → zs_S → Option (zs_S)
  | 0, _, _, _, _, _ => none
  | n + 1, x0, x1, x2, x3, σ =>
    if x3 ≤ x2 then (
      some σ
    ) else (
      zq_g (zq_k 1 x0 2) <|
      zq_g (zq_b x2 (zd_sh 1 x0).2) <|
      zq_v (zs_wi σ x0 ((x2).toNatClampNeg) (vp_nar .boolean x1)) fun σ5 =>
      zq_v (x2 + 1) fun v6 =>
      (zf_Arrays_fillZ1_5 F n) x0 x1 v6 x3 σ5
    )
def zf_Arrays_fillZ1 (F : Nat) (x0 : Nat) (x1 : Int32) (σ : zs_S) : Option (zs_S) :=
  zq_g (zq_k 1 x0 2) <|
  zq_v (nI (zd_sh 1 x0).2) fun v2 =>
  zf_Arrays_fillZ1_5 F F x0 x1 0 v2 σ
set_option maxHeartbeats 4000000 in
set_option maxRecDepth 100000 in
theorem zc_Arrays_fillZ1 {l : Launch} {D : va_G} {cA : Nat → ClassId} {ad : Nat → Nat} {A : Nat → Prop} {F : Nat} {x0 : Nat} {x1 : Int32} {σ : zs_S} {q : zs_S} (hJ : zs_J ad) (hf : zf_Arrays_fillZ1 F x0 x1 σ = some q) : Met l y_Arrays_fillZ1 (.code y_Arrays_fillZ1 prog_22_method_111_code 4 none :: zd_ww) { frames := 0, cells := 0, slots := 0, locals := 0 } (va_Pc [.ref (ad x0), .int x1] (zs_U 1 D cA ad A σ)) (zs_Qv 1 D cA ad A q) 0 0 A := by
  refine Met.ofW (cc := prog_22_method_111_code) (maxL := 4) (ret := none) (by decide) rfl ?_
  intro p e s m args below meth c s₁ B hml hv
  obtain ⟨hargs, hP, hK, hD, hZ⟩ := hv
  have G : zs_G 1 p s m args c prog_22_method_111_code 4 "java/util/Arrays" D cA ad A := ⟨⟨B.exec, B.bytes, hml, findClass_of_methodNamed B.named, fun w h => atoms_spec B.pre w (List.mem_cons_of_mem _ h)⟩, hK, hJ, hZ⟩
  have hw : zs_I 1 D cA ad A s σ s.heap [] := ⟨hP, hD, va_S.rf⟩
  have hx := G.1.1
  have hb := G.1.2.1
  have hown := G.1.2.2.2.1
  have hts := G.1.2.2.2.2
  have hr := B.returns
  have hlocks := B.notSynchronized
  have he : entryFrame m args 4 = F0 m 0 ((lg_sl [.ref (ad x0), .int x1] ++ List.replicate (4 - (lg_sl [.ref (ad x0), .int x1]).length) Slot.unset).toArray) [] := by rw [hargs]; exact lg_entry_eq m _ 4
  have hl := lv_entry [.ref (ad x0), .int x1] (n := 4) (Nat.le_of_ble_eq_true rfl)
  rw [he]
  generalize (lg_sl [.ref (ad x0), .int x1] ++ List.replicate (4 - (lg_sl [.ref (ad x0), .int x1]).length) Slot.unset).toArray = ls at hl
  have hl : lv_has ls 4 [(0, .ref (ad x0)), (1, .int x1)] := hl
  obtain ⟨RR, hR⟩ : ∃ z, z = (headSpec (.code y_Arrays_fillZ1 prog_22_method_111_code 4 none :: zd_ww) { frames := 0, cells := 0, slots := 0, locals := 0 }).room := ⟨_, rfl⟩
  rw [← hR]
  obtain ⟨QQ, hQ⟩ : ∃ z, z = MQ below (zs_Qv 1 D cA ad A q) args s 0 0 A := ⟨_, rfl⟩
  rw [← hQ]
  have hR1 : 0 ≤ RR.frames := by rw [hR]; exact Nat.le_refl _
  have hR2 : 0 ≤ RR.locals := by rw [hR]; exact Nat.le_refl _
  generalize s.heap = H at hw ⊢
  generalize ([] : List Loc) = locs at hw ⊢
  have K5 : ∀ (n : Nat) (x0 : Nat) (x1 : Int32) (x2 : Int32) (x3 : Int32) (σ : zs_S) (H : Heap) (locs : List Loc) (ls : Array Slot), zf_Arrays_fillZ1_5 F n x0 x1 x2 x3 σ = some q → zs_I 1 D cA ad A s σ H locs → lv_has ls 4 [(0, .ref (ad x0)), (1, .int x1), (2, .int x2), (3, .int x3)] → W p l e RR s m args below meth c H locs 0 0 QQ (F0 m 5 ls []) := by
    intro  n
    induction n with
    | zero => intro x0 x1 x2 x3 σ H locs ls hf hw hl; exact nomatch (show (none : Option (zs_S)) = some q from hf)
    | succ n ih =>
      intro x0 x1 x2 x3 σ H locs ls hf hw hl
      rw [zf_Arrays_fillZ1_5] at hf
      refine lv_iload_n hx hb d_Arrays_fillZ1_5 rfl (lv_at hl 2 rfl) ?_
      refine lv_iload_n hx hb d_Arrays_fillZ1_6 rfl (lv_at hl 3 rfl) ?_
      refine lv_icmp_ge hx hb d_Arrays_fillZ1_7 (tgt := 20) rfl (fun hc => ?_) (fun hc => ?_)
      · have hf := (if_pos hc).symm.trans hf
        exact zr_vret G hw hr hlocks hf hQ d_Arrays_fillZ1_20
      · have hf := (if_neg hc).symm.trans hf
        refine lv_aload_n hx hb d_Arrays_fillZ1_10 rfl (lv_at hl 0 rfl) ?_
        refine lv_iload_n hx hb d_Arrays_fillZ1_11 rfl (lv_at hl 2 rfl) ?_
        refine lv_iload_n hx hb d_Arrays_fillZ1_12 rfl (lv_at hl 1 rfl) ?_
        obtain ⟨hs3, hf⟩ := zq_gs hf
        have hs3 := zq_ks hs3
        obtain ⟨hi4, hf⟩ := zq_gs hf
        obtain ⟨σ5, e_σ5, hf⟩ := zq_ss hf
        refine zr_zast G hw x0 hs3 rfl  hi4  d_Arrays_fillZ1_13 (fun H locs hw => ?_)
        rw [← e_σ5] at hw
        obtain ⟨v6, e_v6, hf⟩ := zq_ss hf
        refine lv_iinc (v := v6) hx hb d_Arrays_fillZ1_14 hl (k := 2) rfl (zq_inc (k := 1) (by decide) e_v6) (by decide) rfl (fun ls hl => ?_)
        have hl : lv_has ls 4 [(2, .int v6), (0, .ref (ad x0)), (1, .int x1), (3, .int x3)] := hl
        refine lv_goto hx hb d_Arrays_fillZ1_17 (tgt := 5) rfl ?_
        exact ih x0 x1 v6 x3 σ5 H locs ls hf hw (lv_sub hl [1, 2, 0, 3] rfl)
  unfold zf_Arrays_fillZ1 at hf
  refine lv_iconst (v := 0) hx hb d_Arrays_fillZ1_0 (by decide) ?_
  refine lv_istore_n hx hb d_Arrays_fillZ1_1 rfl hl (by decide) rfl (fun ls hl => ?_)
  have hl : lv_has ls 4 [(2, .int 0), (0, .ref (ad x0)), (1, .int x1)] := hl
  refine lv_aload_n hx hb d_Arrays_fillZ1_2 rfl (lv_at hl 1 rfl) ?_
  obtain ⟨hs1, hf⟩ := zq_gs hf
  have hs1 := zq_ks hs1
  refine zr_alen G hw x0 hs1 (by decide) rfl d_Arrays_fillZ1_3 ?_
  refine lv_topi (fun v2 e_v2 => ?_)
  have hf := zq_vs e_v2 hf
  refine lv_istore_n hx hb d_Arrays_fillZ1_4 rfl hl (by decide) rfl (fun ls hl => ?_)
  have hl : lv_has ls 4 [(3, .int v2), (2, .int 0), (0, .ref (ad x0)), (1, .int x1)] := hl
  exact K5 F x0 x1 0 v2 σ H locs ls hf hw (lv_sub hl [2, 3, 1, 0] rfl)
/-! ScheduleCheckModel.in -/
def y_M_in : MethodName := ⟨"ScheduleCheckModel","in","(III)Z"⟩
theorem d_M_in_0 : decode prog_13_method_1_code 0 = .ok (.iload_n 0, 1) := by decide +kernel
theorem d_M_in_1 : decode prog_13_method_1_code 1 = .ok (.iload_n 1, 1) := by decide +kernel
theorem d_M_in_2 : decode prog_13_method_1_code 2 = .ok (.if_icmp .lt 12, 3) := by decide +kernel
theorem d_M_in_5 : decode prog_13_method_1_code 5 = .ok (.iload_n 0, 1) := by decide +kernel
theorem d_M_in_6 : decode prog_13_method_1_code 6 = .ok (.iload_n 2, 1) := by decide +kernel
theorem d_M_in_7 : decode prog_13_method_1_code 7 = .ok (.if_icmp .gt 7, 3) := by decide +kernel
theorem d_M_in_10 : decode prog_13_method_1_code 10 = .ok (.iconst 1, 1) := by decide +kernel
theorem d_M_in_11 : decode prog_13_method_1_code 11 = .ok (.goto 4, 3) := by decide +kernel
theorem d_M_in_14 : decode prog_13_method_1_code 14 = .ok (.iconst 0, 1) := by decide +kernel
theorem d_M_in_15 : decode prog_13_method_1_code 15 = .ok (.ireturn, 1) := by decide +kernel
def zf_M_in_15 (F : Nat)  (t0 : Int32) (σ : zs_S) : Option (Int32 × zs_S) :=
  zq_g (zq_z t0) <|
  some (t0, σ)
def zf_M_in_14 (F : Nat)   (σ : zs_S) : Option (Int32 × zs_S) :=
  zf_M_in_15 F 0 σ
def zf_M_in (F : Nat) (x0 : Int32) (x1 : Int32) (x2 : Int32) (σ : zs_S) : Option (Int32 × zs_S) :=
  if x0 < x1 then (
    zf_M_in_14 F σ
  ) else (
    if x2 < x0 then (
      zf_M_in_14 F σ
    ) else (
      zf_M_in_15 F 1 σ
    )
  )
set_option maxHeartbeats 4000000 in
set_option maxRecDepth 100000 in
theorem zc_M_in {l : Launch} {D : va_G} {cA : Nat → ClassId} {ad : Nat → Nat} {A : Nat → Prop} {F : Nat} {x0 : Int32} {x1 : Int32} {x2 : Int32} {σ : zs_S} {q : Int32 × zs_S} (hJ : zs_J ad) (hf : zf_M_in F x0 x1 x2 σ = some q) : Met l y_M_in (.code y_M_in prog_13_method_1_code 3 (some .boolean) :: zd_ww) { frames := 0, cells := 0, slots := 0, locals := 0 } (va_Pc [.int x0, .int x1, .int x2] (zs_U 1 D cA ad A σ)) (zs_Qi 1 D cA ad A q) 0 0 A := by
  refine Met.ofW (cc := prog_13_method_1_code) (maxL := 3) (ret := (some .boolean)) (by decide) rfl ?_
  intro p e s m args below meth c s₁ B hml hv
  obtain ⟨hargs, hP, hK, hD, hZ⟩ := hv
  have G : zs_G 1 p s m args c prog_13_method_1_code 3 "ScheduleCheckModel" D cA ad A := ⟨⟨B.exec, B.bytes, hml, findClass_of_methodNamed B.named, fun w h => atoms_spec B.pre w (List.mem_cons_of_mem _ h)⟩, hK, hJ, hZ⟩
  have hw : zs_I 1 D cA ad A s σ s.heap [] := ⟨hP, hD, va_S.rf⟩
  have hx := G.1.1
  have hb := G.1.2.1
  have hown := G.1.2.2.2.1
  have hts := G.1.2.2.2.2
  have hr := B.returns
  have hlocks := B.notSynchronized
  have he : entryFrame m args 3 = F0 m 0 ((lg_sl [.int x0, .int x1, .int x2] ++ List.replicate (3 - (lg_sl [.int x0, .int x1, .int x2]).length) Slot.unset).toArray) [] := by rw [hargs]; exact lg_entry_eq m _ 3
  have hl := lv_entry [.int x0, .int x1, .int x2] (n := 3) (Nat.le_of_ble_eq_true rfl)
  rw [he]
  generalize (lg_sl [.int x0, .int x1, .int x2] ++ List.replicate (3 - (lg_sl [.int x0, .int x1, .int x2]).length) Slot.unset).toArray = ls at hl
  have hl : lv_has ls 3 [(0, .int x0), (1, .int x1), (2, .int x2)] := hl
  obtain ⟨RR, hR⟩ : ∃ z, z = (headSpec (.code y_M_in prog_13_method_1_code 3 (some .boolean) :: zd_ww) { frames := 0, cells := 0, slots := 0, locals := 0 }).room := ⟨_, rfl⟩
  rw [← hR]
  obtain ⟨QQ, hQ⟩ : ∃ z, z = MQ below (zs_Qi 1 D cA ad A q) args s 0 0 A := ⟨_, rfl⟩
  rw [← hQ]
  have hR1 : 0 ≤ RR.frames := by rw [hR]; exact Nat.le_refl _
  have hR2 : 0 ≤ RR.locals := by rw [hR]; exact Nat.le_refl _
  generalize s.heap = H at hw ⊢
  generalize ([] : List Loc) = locs at hw ⊢
  have K15 : ∀ (t0 : Int32) (σ : zs_S) (H : Heap) (locs : List Loc) (ls : Array Slot), zf_M_in_15 F t0 σ = some q → zs_I 1 D cA ad A s σ H locs → lv_has ls 3 [] → W p l e RR s m args below meth c H locs 0 0 QQ (F0 m 15 ls [.int t0]) := by
    intro  t0 σ H locs ls hf hw hl
    unfold zf_M_in_15 at hf
    obtain ⟨hz, hf⟩ := zq_gs hf
    exact zr_zret G hw hr hlocks hz hf hQ d_M_in_15
  have K14 : ∀ (σ : zs_S) (H : Heap) (locs : List Loc) (ls : Array Slot), zf_M_in_14 F σ = some q → zs_I 1 D cA ad A s σ H locs → lv_has ls 3 [] → W p l e RR s m args below meth c H locs 0 0 QQ (F0 m 14 ls []) := by
    intro   σ H locs ls hf hw hl
    unfold zf_M_in_14 at hf
    refine lv_iconst (v := 0) hx hb d_M_in_14 (by decide) ?_
    exact K15 0 σ H locs ls hf hw (lv_sub hl [] rfl)
  unfold zf_M_in at hf
  refine lv_iload_n hx hb d_M_in_0 rfl (lv_at hl 0 rfl) ?_
  refine lv_iload_n hx hb d_M_in_1 rfl (lv_at hl 1 rfl) ?_
  refine lv_icmp_lt hx hb d_M_in_2 (tgt := 14) rfl (fun hc => ?_) (fun hc => ?_)
  · have hf := (if_pos hc).symm.trans hf
    exact K14 σ H locs ls hf hw (lv_sub hl [] rfl)
  · have hf := (if_neg hc).symm.trans hf
    refine lv_iload_n hx hb d_M_in_5 rfl (lv_at hl 0 rfl) ?_
    refine lv_iload_n hx hb d_M_in_6 rfl (lv_at hl 2 rfl) ?_
    refine lv_icmp_gt hx hb d_M_in_7 (tgt := 14) rfl (fun hc => ?_) (fun hc => ?_)
    · have hf := (if_pos hc).symm.trans hf
      exact K14 σ H locs ls hf hw (lv_sub hl [] rfl)
    · have hf := (if_neg hc).symm.trans hf
      refine lv_iconst (v := 1) hx hb d_M_in_10 (by decide) ?_
      refine lv_goto hx hb d_M_in_11 (tgt := 15) rfl ?_
      exact K15 1 σ H locs ls hf hw (lv_sub hl [] rfl)
/-! ScheduleCheckModel.isSmall -/
def y_M_isSmall : MethodName := ⟨"ScheduleCheckModel","isSmall","(I)Z"⟩
theorem d_M_isSmall_0 : decode prog_13_method_5_code 0 = .ok (.iload_n 0, 1) := by decide +kernel
theorem d_M_isSmall_1 : decode prog_13_method_5_code 1 = .ok (.bipush 97, 2) := by decide +kernel
theorem d_M_isSmall_3 : decode prog_13_method_5_code 3 = .ok (.if_icmp .lt 13, 3) := by decide +kernel
theorem d_M_isSmall_6 : decode prog_13_method_5_code 6 = .ok (.iload_n 0, 1) := by decide +kernel
theorem d_M_isSmall_7 : decode prog_13_method_5_code 7 = .ok (.bipush 122, 2) := by decide +kernel
theorem d_M_isSmall_9 : decode prog_13_method_5_code 9 = .ok (.if_icmp .gt 7, 3) := by decide +kernel
theorem d_M_isSmall_12 : decode prog_13_method_5_code 12 = .ok (.iconst 1, 1) := by decide +kernel
theorem d_M_isSmall_13 : decode prog_13_method_5_code 13 = .ok (.goto 4, 3) := by decide +kernel
theorem d_M_isSmall_16 : decode prog_13_method_5_code 16 = .ok (.iconst 0, 1) := by decide +kernel
theorem d_M_isSmall_17 : decode prog_13_method_5_code 17 = .ok (.ireturn, 1) := by decide +kernel
def zf_M_isSmall_17 (F : Nat)  (t0 : Int32) (σ : zs_S) : Option (Int32 × zs_S) :=
  zq_g (zq_z t0) <|
  some (t0, σ)
def zf_M_isSmall_16 (F : Nat)   (σ : zs_S) : Option (Int32 × zs_S) :=
  zf_M_isSmall_17 F 0 σ
def zf_M_isSmall (F : Nat) (x0 : Int32) (σ : zs_S) : Option (Int32 × zs_S) :=
  if x0 < 97 then (
    zf_M_isSmall_16 F σ
  ) else (
    if 122 < x0 then (
      zf_M_isSmall_16 F σ
    ) else (
      zf_M_isSmall_17 F 1 σ
    )
  )
set_option maxHeartbeats 4000000 in
set_option maxRecDepth 100000 in
theorem zc_M_isSmall {l : Launch} {D : va_G} {cA : Nat → ClassId} {ad : Nat → Nat} {A : Nat → Prop} {F : Nat} {x0 : Int32} {σ : zs_S} {q : Int32 × zs_S} (hJ : zs_J ad) (hf : zf_M_isSmall F x0 σ = some q) : Met l y_M_isSmall (.code y_M_isSmall prog_13_method_5_code 1 (some .boolean) :: zd_ww) { frames := 0, cells := 0, slots := 0, locals := 0 } (va_Pc [.int x0] (zs_U 1 D cA ad A σ)) (zs_Qi 1 D cA ad A q) 0 0 A := by
  refine Met.ofW (cc := prog_13_method_5_code) (maxL := 1) (ret := (some .boolean)) (by decide) rfl ?_
  intro p e s m args below meth c s₁ B hml hv
  obtain ⟨hargs, hP, hK, hD, hZ⟩ := hv
  have G : zs_G 1 p s m args c prog_13_method_5_code 1 "ScheduleCheckModel" D cA ad A := ⟨⟨B.exec, B.bytes, hml, findClass_of_methodNamed B.named, fun w h => atoms_spec B.pre w (List.mem_cons_of_mem _ h)⟩, hK, hJ, hZ⟩
  have hw : zs_I 1 D cA ad A s σ s.heap [] := ⟨hP, hD, va_S.rf⟩
  have hx := G.1.1
  have hb := G.1.2.1
  have hown := G.1.2.2.2.1
  have hts := G.1.2.2.2.2
  have hr := B.returns
  have hlocks := B.notSynchronized
  have he : entryFrame m args 1 = F0 m 0 ((lg_sl [.int x0] ++ List.replicate (1 - (lg_sl [.int x0]).length) Slot.unset).toArray) [] := by rw [hargs]; exact lg_entry_eq m _ 1
  have hl := lv_entry [.int x0] (n := 1) (Nat.le_of_ble_eq_true rfl)
  rw [he]
  generalize (lg_sl [.int x0] ++ List.replicate (1 - (lg_sl [.int x0]).length) Slot.unset).toArray = ls at hl
  have hl : lv_has ls 1 [(0, .int x0)] := hl
  obtain ⟨RR, hR⟩ : ∃ z, z = (headSpec (.code y_M_isSmall prog_13_method_5_code 1 (some .boolean) :: zd_ww) { frames := 0, cells := 0, slots := 0, locals := 0 }).room := ⟨_, rfl⟩
  rw [← hR]
  obtain ⟨QQ, hQ⟩ : ∃ z, z = MQ below (zs_Qi 1 D cA ad A q) args s 0 0 A := ⟨_, rfl⟩
  rw [← hQ]
  have hR1 : 0 ≤ RR.frames := by rw [hR]; exact Nat.le_refl _
  have hR2 : 0 ≤ RR.locals := by rw [hR]; exact Nat.le_refl _
  generalize s.heap = H at hw ⊢
  generalize ([] : List Loc) = locs at hw ⊢
  have K17 : ∀ (t0 : Int32) (σ : zs_S) (H : Heap) (locs : List Loc) (ls : Array Slot), zf_M_isSmall_17 F t0 σ = some q → zs_I 1 D cA ad A s σ H locs → lv_has ls 1 [] → W p l e RR s m args below meth c H locs 0 0 QQ (F0 m 17 ls [.int t0]) := by
    intro  t0 σ H locs ls hf hw hl
    unfold zf_M_isSmall_17 at hf
    obtain ⟨hz, hf⟩ := zq_gs hf
    exact zr_zret G hw hr hlocks hz hf hQ d_M_isSmall_17
  have K16 : ∀ (σ : zs_S) (H : Heap) (locs : List Loc) (ls : Array Slot), zf_M_isSmall_16 F σ = some q → zs_I 1 D cA ad A s σ H locs → lv_has ls 1 [] → W p l e RR s m args below meth c H locs 0 0 QQ (F0 m 16 ls []) := by
    intro   σ H locs ls hf hw hl
    unfold zf_M_isSmall_16 at hf
    refine lv_iconst (v := 0) hx hb d_M_isSmall_16 (by decide) ?_
    exact K17 0 σ H locs ls hf hw (lv_sub hl [] rfl)
  unfold zf_M_isSmall at hf
  refine lv_iload_n hx hb d_M_isSmall_0 rfl (lv_at hl 0 rfl) ?_
  refine lv_bipush (v := 97) hx hb d_M_isSmall_1 (by decide) ?_
  refine lv_icmp_lt hx hb d_M_isSmall_3 (tgt := 16) rfl (fun hc => ?_) (fun hc => ?_)
  · have hf := (if_pos hc).symm.trans hf
    exact K16 σ H locs ls hf hw (lv_sub hl [] rfl)
  · have hf := (if_neg hc).symm.trans hf
    refine lv_iload_n hx hb d_M_isSmall_6 rfl (lv_at hl 0 rfl) ?_
    refine lv_bipush (v := 122) hx hb d_M_isSmall_7 (by decide) ?_
    refine lv_icmp_gt hx hb d_M_isSmall_9 (tgt := 16) rfl (fun hc => ?_) (fun hc => ?_)
    · have hf := (if_pos hc).symm.trans hf
      exact K16 σ H locs ls hf hw (lv_sub hl [] rfl)
    · have hf := (if_neg hc).symm.trans hf
      refine lv_iconst (v := 1) hx hb d_M_isSmall_12 (by decide) ?_
      refine lv_goto hx hb d_M_isSmall_13 (tgt := 17) rfl ?_
      exact K17 1 σ H locs ls hf hw (lv_sub hl [] rfl)
/-! ScheduleCheckModel.isDigit -/
def y_M_isDigit : MethodName := ⟨"ScheduleCheckModel","isDigit","(I)Z"⟩
theorem d_M_isDigit_0 : decode prog_13_method_6_code 0 = .ok (.iload_n 0, 1) := by decide +kernel
theorem d_M_isDigit_1 : decode prog_13_method_6_code 1 = .ok (.bipush 48, 2) := by decide +kernel
theorem d_M_isDigit_3 : decode prog_13_method_6_code 3 = .ok (.if_icmp .lt 13, 3) := by decide +kernel
theorem d_M_isDigit_6 : decode prog_13_method_6_code 6 = .ok (.iload_n 0, 1) := by decide +kernel
theorem d_M_isDigit_7 : decode prog_13_method_6_code 7 = .ok (.bipush 57, 2) := by decide +kernel
theorem d_M_isDigit_9 : decode prog_13_method_6_code 9 = .ok (.if_icmp .gt 7, 3) := by decide +kernel
theorem d_M_isDigit_12 : decode prog_13_method_6_code 12 = .ok (.iconst 1, 1) := by decide +kernel
theorem d_M_isDigit_13 : decode prog_13_method_6_code 13 = .ok (.goto 4, 3) := by decide +kernel
theorem d_M_isDigit_16 : decode prog_13_method_6_code 16 = .ok (.iconst 0, 1) := by decide +kernel
theorem d_M_isDigit_17 : decode prog_13_method_6_code 17 = .ok (.ireturn, 1) := by decide +kernel
def zf_M_isDigit_17 (F : Nat)  (t0 : Int32) (σ : zs_S) : Option (Int32 × zs_S) :=
  zq_g (zq_z t0) <|
  some (t0, σ)
def zf_M_isDigit_16 (F : Nat)   (σ : zs_S) : Option (Int32 × zs_S) :=
  zf_M_isDigit_17 F 0 σ
def zf_M_isDigit (F : Nat) (x0 : Int32) (σ : zs_S) : Option (Int32 × zs_S) :=
  if x0 < 48 then (
    zf_M_isDigit_16 F σ
  ) else (
    if 57 < x0 then (
      zf_M_isDigit_16 F σ
    ) else (
      zf_M_isDigit_17 F 1 σ
    )
  )
set_option maxHeartbeats 4000000 in
set_option maxRecDepth 100000 in
theorem zc_M_isDigit {l : Launch} {D : va_G} {cA : Nat → ClassId} {ad : Nat → Nat} {A : Nat → Prop} {F : Nat} {x0 : Int32} {σ : zs_S} {q : Int32 × zs_S} (hJ : zs_J ad) (hf : zf_M_isDigit F x0 σ = some q) : Met l y_M_isDigit (.code y_M_isDigit prog_13_method_6_code 1 (some .boolean) :: zd_ww) { frames := 0, cells := 0, slots := 0, locals := 0 } (va_Pc [.int x0] (zs_U 1 D cA ad A σ)) (zs_Qi 1 D cA ad A q) 0 0 A := by
  refine Met.ofW (cc := prog_13_method_6_code) (maxL := 1) (ret := (some .boolean)) (by decide) rfl ?_
  intro p e s m args below meth c s₁ B hml hv
  obtain ⟨hargs, hP, hK, hD, hZ⟩ := hv
  have G : zs_G 1 p s m args c prog_13_method_6_code 1 "ScheduleCheckModel" D cA ad A := ⟨⟨B.exec, B.bytes, hml, findClass_of_methodNamed B.named, fun w h => atoms_spec B.pre w (List.mem_cons_of_mem _ h)⟩, hK, hJ, hZ⟩
  have hw : zs_I 1 D cA ad A s σ s.heap [] := ⟨hP, hD, va_S.rf⟩
  have hx := G.1.1
  have hb := G.1.2.1
  have hown := G.1.2.2.2.1
  have hts := G.1.2.2.2.2
  have hr := B.returns
  have hlocks := B.notSynchronized
  have he : entryFrame m args 1 = F0 m 0 ((lg_sl [.int x0] ++ List.replicate (1 - (lg_sl [.int x0]).length) Slot.unset).toArray) [] := by rw [hargs]; exact lg_entry_eq m _ 1
  have hl := lv_entry [.int x0] (n := 1) (Nat.le_of_ble_eq_true rfl)
  rw [he]
  generalize (lg_sl [.int x0] ++ List.replicate (1 - (lg_sl [.int x0]).length) Slot.unset).toArray = ls at hl
  have hl : lv_has ls 1 [(0, .int x0)] := hl
  obtain ⟨RR, hR⟩ : ∃ z, z = (headSpec (.code y_M_isDigit prog_13_method_6_code 1 (some .boolean) :: zd_ww) { frames := 0, cells := 0, slots := 0, locals := 0 }).room := ⟨_, rfl⟩
  rw [← hR]
  obtain ⟨QQ, hQ⟩ : ∃ z, z = MQ below (zs_Qi 1 D cA ad A q) args s 0 0 A := ⟨_, rfl⟩
  rw [← hQ]
  have hR1 : 0 ≤ RR.frames := by rw [hR]; exact Nat.le_refl _
  have hR2 : 0 ≤ RR.locals := by rw [hR]; exact Nat.le_refl _
  generalize s.heap = H at hw ⊢
  generalize ([] : List Loc) = locs at hw ⊢
  have K17 : ∀ (t0 : Int32) (σ : zs_S) (H : Heap) (locs : List Loc) (ls : Array Slot), zf_M_isDigit_17 F t0 σ = some q → zs_I 1 D cA ad A s σ H locs → lv_has ls 1 [] → W p l e RR s m args below meth c H locs 0 0 QQ (F0 m 17 ls [.int t0]) := by
    intro  t0 σ H locs ls hf hw hl
    unfold zf_M_isDigit_17 at hf
    obtain ⟨hz, hf⟩ := zq_gs hf
    exact zr_zret G hw hr hlocks hz hf hQ d_M_isDigit_17
  have K16 : ∀ (σ : zs_S) (H : Heap) (locs : List Loc) (ls : Array Slot), zf_M_isDigit_16 F σ = some q → zs_I 1 D cA ad A s σ H locs → lv_has ls 1 [] → W p l e RR s m args below meth c H locs 0 0 QQ (F0 m 16 ls []) := by
    intro   σ H locs ls hf hw hl
    unfold zf_M_isDigit_16 at hf
    refine lv_iconst (v := 0) hx hb d_M_isDigit_16 (by decide) ?_
    exact K17 0 σ H locs ls hf hw (lv_sub hl [] rfl)
  unfold zf_M_isDigit at hf
  refine lv_iload_n hx hb d_M_isDigit_0 rfl (lv_at hl 0 rfl) ?_
  refine lv_bipush (v := 48) hx hb d_M_isDigit_1 (by decide) ?_
  refine lv_icmp_lt hx hb d_M_isDigit_3 (tgt := 16) rfl (fun hc => ?_) (fun hc => ?_)
  · have hf := (if_pos hc).symm.trans hf
    exact K16 σ H locs ls hf hw (lv_sub hl [] rfl)
  · have hf := (if_neg hc).symm.trans hf
    refine lv_iload_n hx hb d_M_isDigit_6 rfl (lv_at hl 0 rfl) ?_
    refine lv_bipush (v := 57) hx hb d_M_isDigit_7 (by decide) ?_
    refine lv_icmp_gt hx hb d_M_isDigit_9 (tgt := 16) rfl (fun hc => ?_) (fun hc => ?_)
    · have hf := (if_pos hc).symm.trans hf
      exact K16 σ H locs ls hf hw (lv_sub hl [] rfl)
    · have hf := (if_neg hc).symm.trans hf
      refine lv_iconst (v := 1) hx hb d_M_isDigit_12 (by decide) ?_
      refine lv_goto hx hb d_M_isDigit_13 (tgt := 17) rfl ?_
      exact K17 1 σ H locs ls hf hw (lv_sub hl [] rfl)
/-! ScheduleCheckModel.each -/
def y_M_each : MethodName := ⟨"ScheduleCheckModel","each","(I)I"⟩
theorem d_M_each_0 : decode prog_13_method_27_code 0 = .ok (.bipush 12, 2) := by decide +kernel
theorem d_M_each_2 : decode prog_13_method_27_code 2 = .ok (.iconst 5, 1) := by decide +kernel
theorem d_M_each_3 : decode prog_13_method_27_code 3 = .ok (.iload_n 0, 1) := by decide +kernel
theorem d_M_each_4 : decode prog_13_method_27_code 4 = .ok (.imul, 1) := by decide +kernel
theorem d_M_each_5 : decode prog_13_method_27_code 5 = .ok (.iadd, 1) := by decide +kernel
theorem d_M_each_6 : decode prog_13_method_27_code 6 = .ok (.ireturn, 1) := by decide +kernel
def zf_M_each (F : Nat) (x0 : Int32) (σ : zs_S) : Option (Int32 × zs_S) :=
  some (12 + (5 * x0), σ)
set_option maxHeartbeats 4000000 in
set_option maxRecDepth 100000 in
theorem zc_M_each {l : Launch} {D : va_G} {cA : Nat → ClassId} {ad : Nat → Nat} {A : Nat → Prop} {F : Nat} {x0 : Int32} {σ : zs_S} {q : Int32 × zs_S} (hJ : zs_J ad) (hf : zf_M_each F x0 σ = some q) : Met l y_M_each (.code y_M_each prog_13_method_27_code 1 (some .int) :: zd_ww) { frames := 0, cells := 0, slots := 0, locals := 0 } (va_Pc [.int x0] (zs_U 1 D cA ad A σ)) (zs_Qi 1 D cA ad A q) 0 0 A := by
  refine Met.ofW (cc := prog_13_method_27_code) (maxL := 1) (ret := (some .int)) (by decide) rfl ?_
  intro p e s m args below meth c s₁ B hml hv
  obtain ⟨hargs, hP, hK, hD, hZ⟩ := hv
  have G : zs_G 1 p s m args c prog_13_method_27_code 1 "ScheduleCheckModel" D cA ad A := ⟨⟨B.exec, B.bytes, hml, findClass_of_methodNamed B.named, fun w h => atoms_spec B.pre w (List.mem_cons_of_mem _ h)⟩, hK, hJ, hZ⟩
  have hw : zs_I 1 D cA ad A s σ s.heap [] := ⟨hP, hD, va_S.rf⟩
  have hx := G.1.1
  have hb := G.1.2.1
  have hown := G.1.2.2.2.1
  have hts := G.1.2.2.2.2
  have hr := B.returns
  have hlocks := B.notSynchronized
  have he : entryFrame m args 1 = F0 m 0 ((lg_sl [.int x0] ++ List.replicate (1 - (lg_sl [.int x0]).length) Slot.unset).toArray) [] := by rw [hargs]; exact lg_entry_eq m _ 1
  have hl := lv_entry [.int x0] (n := 1) (Nat.le_of_ble_eq_true rfl)
  rw [he]
  generalize (lg_sl [.int x0] ++ List.replicate (1 - (lg_sl [.int x0]).length) Slot.unset).toArray = ls at hl
  have hl : lv_has ls 1 [(0, .int x0)] := hl
  obtain ⟨RR, hR⟩ : ∃ z, z = (headSpec (.code y_M_each prog_13_method_27_code 1 (some .int) :: zd_ww) { frames := 0, cells := 0, slots := 0, locals := 0 }).room := ⟨_, rfl⟩
  rw [← hR]
  obtain ⟨QQ, hQ⟩ : ∃ z, z = MQ below (zs_Qi 1 D cA ad A q) args s 0 0 A := ⟨_, rfl⟩
  rw [← hQ]
  have hR1 : 0 ≤ RR.frames := by rw [hR]; exact Nat.le_refl _
  have hR2 : 0 ≤ RR.locals := by rw [hR]; exact Nat.le_refl _
  generalize s.heap = H at hw ⊢
  generalize ([] : List Loc) = locs at hw ⊢
  unfold zf_M_each at hf
  refine lv_bipush (v := 12) hx hb d_M_each_0 (by decide) ?_
  refine lv_iconst (v := 5) hx hb d_M_each_2 (by decide) ?_
  refine lv_iload_n hx hb d_M_each_3 rfl (lv_at hl 0 rfl) ?_
  refine lv_imul hx hb d_M_each_4 ?_
  refine lv_iadd hx hb d_M_each_5 ?_
  exact zr_iret G hw hr hlocks hf hQ d_M_each_6
/-! ScheduleCheckModel.bad -/
def y_M_bad : MethodName := ⟨"ScheduleCheckModel","bad","()Z"⟩
theorem d_M_bad_0 : decode prog_13_method_10_code 0 = .ok (.aload_n 0, 1) := by decide +kernel
theorem d_M_bad_1 : decode prog_13_method_10_code 1 = .ok (.getfield 139, 3) := by decide +kernel
theorem d_M_bad_4 : decode prog_13_method_10_code 4 = .ok (.ifCond .ge 11, 3) := by decide +kernel
theorem d_M_bad_7 : decode prog_13_method_10_code 7 = .ok (.aload_n 0, 1) := by decide +kernel
theorem d_M_bad_8 : decode prog_13_method_10_code 8 = .ok (.aload_n 0, 1) := by decide +kernel
theorem d_M_bad_9 : decode prog_13_method_10_code 9 = .ok (.getfield 72, 3) := by decide +kernel
theorem d_M_bad_12 : decode prog_13_method_10_code 12 = .ok (.putfield 139, 3) := by decide +kernel
theorem d_M_bad_15 : decode prog_13_method_10_code 15 = .ok (.iconst 0, 1) := by decide +kernel
theorem d_M_bad_16 : decode prog_13_method_10_code 16 = .ok (.ireturn, 1) := by decide +kernel
def zf_M_bad_15 (F : Nat)   (σ : zs_S) : Option (Int32 × zs_S) :=
  some (0, σ)
def zf_M_bad (F : Nat)  (σ : zs_S) : Option (Int32 × zs_S) :=
  if 0 ≤ (zs_i σ 1 11) then (
    zf_M_bad_15 F σ
  ) else (
    zq_v (zs_wi σ 1 11 (zs_i σ 1 8)) fun σ1 =>
    zf_M_bad_15 F σ1
  )
set_option maxHeartbeats 4000000 in
set_option maxRecDepth 100000 in
theorem zc_M_bad {l : Launch} {D : va_G} {cA : Nat → ClassId} {ad : Nat → Nat} {A : Nat → Prop} {F : Nat}  {σ : zs_S} {q : Int32 × zs_S} (hJ : zs_J ad) (hf : zf_M_bad F  σ = some q) : Met l y_M_bad (.code y_M_bad prog_13_method_10_code 1 (some .boolean) :: zd_ww) { frames := 0, cells := 0, slots := 0, locals := 0 } (va_Pc [.ref (ad 1)] (zs_U 1 D cA ad A σ)) (zs_Qi 1 D cA ad A q) 0 0 A := by
  refine Met.ofW (cc := prog_13_method_10_code) (maxL := 1) (ret := (some .boolean)) (by decide) rfl ?_
  intro p e s m args below meth c s₁ B hml hv
  obtain ⟨hargs, hP, hK, hD, hZ⟩ := hv
  have G : zs_G 1 p s m args c prog_13_method_10_code 1 "ScheduleCheckModel" D cA ad A := ⟨⟨B.exec, B.bytes, hml, findClass_of_methodNamed B.named, fun w h => atoms_spec B.pre w (List.mem_cons_of_mem _ h)⟩, hK, hJ, hZ⟩
  have hw : zs_I 1 D cA ad A s σ s.heap [] := ⟨hP, hD, va_S.rf⟩
  have hx := G.1.1
  have hb := G.1.2.1
  have hown := G.1.2.2.2.1
  have hts := G.1.2.2.2.2
  have hr := B.returns
  have hlocks := B.notSynchronized
  have he : entryFrame m args 1 = F0 m 0 ((lg_sl [.ref (ad 1)] ++ List.replicate (1 - (lg_sl [.ref (ad 1)]).length) Slot.unset).toArray) [] := by rw [hargs]; exact lg_entry_eq m _ 1
  have hl := lv_entry [.ref (ad 1)] (n := 1) (Nat.le_of_ble_eq_true rfl)
  rw [he]
  generalize (lg_sl [.ref (ad 1)] ++ List.replicate (1 - (lg_sl [.ref (ad 1)]).length) Slot.unset).toArray = ls at hl
  have hl : lv_has ls 1 [(0, .ref (ad 1))] := hl
  obtain ⟨RR, hR⟩ : ∃ z, z = (headSpec (.code y_M_bad prog_13_method_10_code 1 (some .boolean) :: zd_ww) { frames := 0, cells := 0, slots := 0, locals := 0 }).room := ⟨_, rfl⟩
  rw [← hR]
  obtain ⟨QQ, hQ⟩ : ∃ z, z = MQ below (zs_Qi 1 D cA ad A q) args s 0 0 A := ⟨_, rfl⟩
  rw [← hQ]
  have hR1 : 0 ≤ RR.frames := by rw [hR]; exact Nat.le_refl _
  have hR2 : 0 ≤ RR.locals := by rw [hR]; exact Nat.le_refl _
  generalize s.heap = H at hw ⊢
  generalize ([] : List Loc) = locs at hw ⊢
  have K15 : ∀ (σ : zs_S) (H : Heap) (locs : List Loc) (ls : Array Slot), zf_M_bad_15 F σ = some q → zs_I 1 D cA ad A s σ H locs → lv_has ls 1 [] → W p l e RR s m args below meth c H locs 0 0 QQ (F0 m 15 ls []) := by
    intro   σ H locs ls hf hw hl
    unfold zf_M_bad_15 at hf
    refine lv_iconst (v := 0) hx hb d_M_bad_15 (by decide) ?_
    exact zr_zret G hw hr hlocks (by decide) hf hQ d_M_bad_16
  unfold zf_M_bad at hf
  refine lv_aload_n hx hb d_M_bad_0 rfl (lv_at hl 0 rfl) ?_
  refine zr_get (ci := 8) G hw 1 11 zi_8 rfl rfl rfl (by decide) zm_543 (fun _ h => h) (v := .int (zs_i σ 1 11)) rfl d_M_bad_1 ?_
  refine lv_if_ge hx hb d_M_bad_4 (tgt := 15) rfl (fun hc => ?_) (fun hc => ?_)
  · have hf := (if_pos hc).symm.trans hf
    exact K15 σ H locs ls hf hw (lv_sub hl [] rfl)
  · have hf := (if_neg hc).symm.trans hf
    refine lv_aload_n hx hb d_M_bad_7 rfl (lv_at hl 0 rfl) ?_
    refine lv_aload_n hx hb d_M_bad_8 rfl (lv_at hl 0 rfl) ?_
    refine zr_get (ci := 8) G hw 1 8 zi_8 rfl rfl rfl (by decide) zm_544 (fun _ h => h) (v := .int (zs_i σ 1 8)) rfl d_M_bad_9 ?_
    obtain ⟨σ1, e_σ1, hf⟩ := zq_ss hf
    refine zr_puti (ci := 8) G hw 1 11 zi_8 t_zd8 t_zd8_ok n_zd8 rfl rfl rfl (by decide) rfl zm_543 (fun _ h => h) rfl (x := (zs_i σ 1 8)) (t_zd8_ok 11 (by decide)) rfl rfl d_M_bad_12 (fun H locs hw => ?_)
    rw [← e_σ1] at hw
    exact K15 σ1 H locs ls hf hw (lv_sub hl [] rfl)
/-! ScheduleCheckModel.step -/
def y_M_step : MethodName := ⟨"ScheduleCheckModel","step","()V"⟩
theorem d_M_step_0 : decode prog_13_method_7_code 0 = .ok (.aload_n 0, 1) := by decide +kernel
theorem d_M_step_1 : decode prog_13_method_7_code 1 = .ok (.getfield 66, 3) := by decide +kernel
theorem d_M_step_4 : decode prog_13_method_7_code 4 = .ok (.aload_n 0, 1) := by decide +kernel
theorem d_M_step_5 : decode prog_13_method_7_code 5 = .ok (.getfield 69, 3) := by decide +kernel
theorem d_M_step_8 : decode prog_13_method_7_code 8 = .ok (.if_icmp .ge 44, 3) := by decide +kernel
theorem d_M_step_11 : decode prog_13_method_7_code 11 = .ok (.aload_n 0, 1) := by decide +kernel
theorem d_M_step_12 : decode prog_13_method_7_code 12 = .ok (.getfield 9, 3) := by decide +kernel
theorem d_M_step_15 : decode prog_13_method_7_code 15 = .ok (.aload_n 0, 1) := by decide +kernel
theorem d_M_step_16 : decode prog_13_method_7_code 16 = .ok (.getfield 66, 3) := by decide +kernel
theorem d_M_step_19 : decode prog_13_method_7_code 19 = .ok (.baload, 1) := by decide +kernel
theorem d_M_step_20 : decode prog_13_method_7_code 20 = .ok (.bipush 32, 2) := by decide +kernel
theorem d_M_step_22 : decode prog_13_method_7_code 22 = .ok (.if_icmp .eq 17, 3) := by decide +kernel
theorem d_M_step_25 : decode prog_13_method_7_code 25 = .ok (.aload_n 0, 1) := by decide +kernel
theorem d_M_step_26 : decode prog_13_method_7_code 26 = .ok (.getfield 9, 3) := by decide +kernel
theorem d_M_step_29 : decode prog_13_method_7_code 29 = .ok (.aload_n 0, 1) := by decide +kernel
theorem d_M_step_30 : decode prog_13_method_7_code 30 = .ok (.getfield 66, 3) := by decide +kernel
theorem d_M_step_33 : decode prog_13_method_7_code 33 = .ok (.baload, 1) := by decide +kernel
theorem d_M_step_34 : decode prog_13_method_7_code 34 = .ok (.bipush 10, 2) := by decide +kernel
theorem d_M_step_36 : decode prog_13_method_7_code 36 = .ok (.if_icmp .ne 16, 3) := by decide +kernel
theorem d_M_step_39 : decode prog_13_method_7_code 39 = .ok (.aload_n 0, 1) := by decide +kernel
theorem d_M_step_40 : decode prog_13_method_7_code 40 = .ok (.dup, 1) := by decide +kernel
theorem d_M_step_41 : decode prog_13_method_7_code 41 = .ok (.getfield 66, 3) := by decide +kernel
theorem d_M_step_44 : decode prog_13_method_7_code 44 = .ok (.iconst 1, 1) := by decide +kernel
theorem d_M_step_45 : decode prog_13_method_7_code 45 = .ok (.iadd, 1) := by decide +kernel
theorem d_M_step_46 : decode prog_13_method_7_code 46 = .ok (.putfield 66, 3) := by decide +kernel
theorem d_M_step_49 : decode prog_13_method_7_code 49 = .ok (.goto (-49), 3) := by decide +kernel
theorem d_M_step_52 : decode prog_13_method_7_code 52 = .ok (.aload_n 0, 1) := by decide +kernel
theorem d_M_step_53 : decode prog_13_method_7_code 53 = .ok (.aload_n 0, 1) := by decide +kernel
theorem d_M_step_54 : decode prog_13_method_7_code 54 = .ok (.getfield 66, 3) := by decide +kernel
theorem d_M_step_57 : decode prog_13_method_7_code 57 = .ok (.putfield 72, 3) := by decide +kernel
theorem d_M_step_60 : decode prog_13_method_7_code 60 = .ok (.aload_n 0, 1) := by decide +kernel
theorem d_M_step_61 : decode prog_13_method_7_code 61 = .ok (.getfield 72, 3) := by decide +kernel
theorem d_M_step_64 : decode prog_13_method_7_code 64 = .ok (.aload_n 0, 1) := by decide +kernel
theorem d_M_step_65 : decode prog_13_method_7_code 65 = .ok (.getfield 69, 3) := by decide +kernel
theorem d_M_step_68 : decode prog_13_method_7_code 68 = .ok (.if_icmp .ne 11, 3) := by decide +kernel
theorem d_M_step_71 : decode prog_13_method_7_code 71 = .ok (.aload_n 0, 1) := by decide +kernel
theorem d_M_step_72 : decode prog_13_method_7_code 72 = .ok (.iconst 0, 1) := by decide +kernel
theorem d_M_step_73 : decode prog_13_method_7_code 73 = .ok (.putfield 75, 3) := by decide +kernel
theorem d_M_step_76 : decode prog_13_method_7_code 76 = .ok (.goto 422, 3) := by decide +kernel
theorem d_M_step_79 : decode prog_13_method_7_code 79 = .ok (.aload_n 0, 1) := by decide +kernel
theorem d_M_step_80 : decode prog_13_method_7_code 80 = .ok (.getfield 9, 3) := by decide +kernel
theorem d_M_step_83 : decode prog_13_method_7_code 83 = .ok (.aload_n 0, 1) := by decide +kernel
theorem d_M_step_84 : decode prog_13_method_7_code 84 = .ok (.getfield 72, 3) := by decide +kernel
theorem d_M_step_87 : decode prog_13_method_7_code 87 = .ok (.baload, 1) := by decide +kernel
theorem d_M_step_88 : decode prog_13_method_7_code 88 = .ok (.invokestatic 78, 3) := by decide +kernel
theorem d_M_step_91 : decode prog_13_method_7_code 91 = .ok (.ifCond .eq 83, 3) := by decide +kernel
theorem d_M_step_94 : decode prog_13_method_7_code 94 = .ok (.aload_n 0, 1) := by decide +kernel
theorem d_M_step_95 : decode prog_13_method_7_code 95 = .ok (.getfield 66, 3) := by decide +kernel
theorem d_M_step_98 : decode prog_13_method_7_code 98 = .ok (.aload_n 0, 1) := by decide +kernel
theorem d_M_step_99 : decode prog_13_method_7_code 99 = .ok (.getfield 69, 3) := by decide +kernel
theorem d_M_step_102 : decode prog_13_method_7_code 102 = .ok (.if_icmp .ge 46, 3) := by decide +kernel
theorem d_M_step_105 : decode prog_13_method_7_code 105 = .ok (.aload_n 0, 1) := by decide +kernel
theorem d_M_step_106 : decode prog_13_method_7_code 106 = .ok (.getfield 9, 3) := by decide +kernel
theorem d_M_step_109 : decode prog_13_method_7_code 109 = .ok (.aload_n 0, 1) := by decide +kernel
theorem d_M_step_110 : decode prog_13_method_7_code 110 = .ok (.getfield 66, 3) := by decide +kernel
theorem d_M_step_113 : decode prog_13_method_7_code 113 = .ok (.baload, 1) := by decide +kernel
theorem d_M_step_114 : decode prog_13_method_7_code 114 = .ok (.invokestatic 78, 3) := by decide +kernel
theorem d_M_step_117 : decode prog_13_method_7_code 117 = .ok (.ifCond .ne 18, 3) := by decide +kernel
theorem d_M_step_120 : decode prog_13_method_7_code 120 = .ok (.aload_n 0, 1) := by decide +kernel
theorem d_M_step_121 : decode prog_13_method_7_code 121 = .ok (.getfield 9, 3) := by decide +kernel
theorem d_M_step_124 : decode prog_13_method_7_code 124 = .ok (.aload_n 0, 1) := by decide +kernel
theorem d_M_step_125 : decode prog_13_method_7_code 125 = .ok (.getfield 66, 3) := by decide +kernel
theorem d_M_step_128 : decode prog_13_method_7_code 128 = .ok (.baload, 1) := by decide +kernel
theorem d_M_step_129 : decode prog_13_method_7_code 129 = .ok (.invokestatic 82, 3) := by decide +kernel
theorem d_M_step_132 : decode prog_13_method_7_code 132 = .ok (.ifCond .eq 16, 3) := by decide +kernel
theorem d_M_step_135 : decode prog_13_method_7_code 135 = .ok (.aload_n 0, 1) := by decide +kernel
theorem d_M_step_136 : decode prog_13_method_7_code 136 = .ok (.dup, 1) := by decide +kernel
theorem d_M_step_137 : decode prog_13_method_7_code 137 = .ok (.getfield 66, 3) := by decide +kernel
theorem d_M_step_140 : decode prog_13_method_7_code 140 = .ok (.iconst 1, 1) := by decide +kernel
theorem d_M_step_141 : decode prog_13_method_7_code 141 = .ok (.iadd, 1) := by decide +kernel
theorem d_M_step_142 : decode prog_13_method_7_code 142 = .ok (.putfield 66, 3) := by decide +kernel
theorem d_M_step_145 : decode prog_13_method_7_code 145 = .ok (.goto (-51), 3) := by decide +kernel
theorem d_M_step_148 : decode prog_13_method_7_code 148 = .ok (.aload_n 0, 1) := by decide +kernel
theorem d_M_step_149 : decode prog_13_method_7_code 149 = .ok (.aload_n 0, 1) := by decide +kernel
theorem d_M_step_150 : decode prog_13_method_7_code 150 = .ok (.getfield 66, 3) := by decide +kernel
theorem d_M_step_153 : decode prog_13_method_7_code 153 = .ok (.aload_n 0, 1) := by decide +kernel
theorem d_M_step_154 : decode prog_13_method_7_code 154 = .ok (.getfield 72, 3) := by decide +kernel
theorem d_M_step_157 : decode prog_13_method_7_code 157 = .ok (.isub, 1) := by decide +kernel
theorem d_M_step_158 : decode prog_13_method_7_code 158 = .ok (.bipush 8, 2) := by decide +kernel
theorem d_M_step_160 : decode prog_13_method_7_code 160 = .ok (.if_icmp .gt 7, 3) := by decide +kernel
theorem d_M_step_163 : decode prog_13_method_7_code 163 = .ok (.iconst 1, 1) := by decide +kernel
theorem d_M_step_164 : decode prog_13_method_7_code 164 = .ok (.goto 4, 3) := by decide +kernel
theorem d_M_step_167 : decode prog_13_method_7_code 167 = .ok (.iconst 4, 1) := by decide +kernel
theorem d_M_step_168 : decode prog_13_method_7_code 168 = .ok (.putfield 75, 3) := by decide +kernel
theorem d_M_step_171 : decode prog_13_method_7_code 171 = .ok (.goto 327, 3) := by decide +kernel
theorem d_M_step_174 : decode prog_13_method_7_code 174 = .ok (.aload_n 0, 1) := by decide +kernel
theorem d_M_step_175 : decode prog_13_method_7_code 175 = .ok (.getfield 9, 3) := by decide +kernel
theorem d_M_step_178 : decode prog_13_method_7_code 178 = .ok (.aload_n 0, 1) := by decide +kernel
theorem d_M_step_179 : decode prog_13_method_7_code 179 = .ok (.getfield 72, 3) := by decide +kernel
theorem d_M_step_182 : decode prog_13_method_7_code 182 = .ok (.baload, 1) := by decide +kernel
theorem d_M_step_183 : decode prog_13_method_7_code 183 = .ok (.invokestatic 82, 3) := by decide +kernel
theorem d_M_step_186 : decode prog_13_method_7_code 186 = .ok (.ifCond .eq 98, 3) := by decide +kernel
theorem d_M_step_189 : decode prog_13_method_7_code 189 = .ok (.aload_n 0, 1) := by decide +kernel
theorem d_M_step_190 : decode prog_13_method_7_code 190 = .ok (.iconst 0, 1) := by decide +kernel
theorem d_M_step_191 : decode prog_13_method_7_code 191 = .ok (.putfield 85, 3) := by decide +kernel
theorem d_M_step_194 : decode prog_13_method_7_code 194 = .ok (.aload_n 0, 1) := by decide +kernel
theorem d_M_step_195 : decode prog_13_method_7_code 195 = .ok (.getfield 66, 3) := by decide +kernel
theorem d_M_step_198 : decode prog_13_method_7_code 198 = .ok (.aload_n 0, 1) := by decide +kernel
theorem d_M_step_199 : decode prog_13_method_7_code 199 = .ok (.getfield 69, 3) := by decide +kernel
theorem d_M_step_202 : decode prog_13_method_7_code 202 = .ok (.if_icmp .ge 61, 3) := by decide +kernel
theorem d_M_step_205 : decode prog_13_method_7_code 205 = .ok (.aload_n 0, 1) := by decide +kernel
theorem d_M_step_206 : decode prog_13_method_7_code 206 = .ok (.getfield 9, 3) := by decide +kernel
theorem d_M_step_209 : decode prog_13_method_7_code 209 = .ok (.aload_n 0, 1) := by decide +kernel
theorem d_M_step_210 : decode prog_13_method_7_code 210 = .ok (.getfield 66, 3) := by decide +kernel
theorem d_M_step_213 : decode prog_13_method_7_code 213 = .ok (.baload, 1) := by decide +kernel
theorem d_M_step_214 : decode prog_13_method_7_code 214 = .ok (.invokestatic 82, 3) := by decide +kernel
theorem d_M_step_217 : decode prog_13_method_7_code 217 = .ok (.ifCond .eq 46, 3) := by decide +kernel
theorem d_M_step_220 : decode prog_13_method_7_code 220 = .ok (.aload_n 0, 1) := by decide +kernel
theorem d_M_step_221 : decode prog_13_method_7_code 221 = .ok (.sipush 1000, 3) := by decide +kernel
theorem d_M_step_224 : decode prog_13_method_7_code 224 = .ok (.bipush 10, 2) := by decide +kernel
theorem d_M_step_226 : decode prog_13_method_7_code 226 = .ok (.aload_n 0, 1) := by decide +kernel
theorem d_M_step_227 : decode prog_13_method_7_code 227 = .ok (.getfield 85, 3) := by decide +kernel
theorem d_M_step_230 : decode prog_13_method_7_code 230 = .ok (.imul, 1) := by decide +kernel
theorem d_M_step_231 : decode prog_13_method_7_code 231 = .ok (.aload_n 0, 1) := by decide +kernel
theorem d_M_step_232 : decode prog_13_method_7_code 232 = .ok (.getfield 9, 3) := by decide +kernel
theorem d_M_step_235 : decode prog_13_method_7_code 235 = .ok (.aload_n 0, 1) := by decide +kernel
theorem d_M_step_236 : decode prog_13_method_7_code 236 = .ok (.getfield 66, 3) := by decide +kernel
theorem d_M_step_239 : decode prog_13_method_7_code 239 = .ok (.baload, 1) := by decide +kernel
theorem d_M_step_240 : decode prog_13_method_7_code 240 = .ok (.iadd, 1) := by decide +kernel
theorem d_M_step_241 : decode prog_13_method_7_code 241 = .ok (.bipush 48, 2) := by decide +kernel
theorem d_M_step_243 : decode prog_13_method_7_code 243 = .ok (.isub, 1) := by decide +kernel
theorem d_M_step_244 : decode prog_13_method_7_code 244 = .ok (.invokestatic 88, 3) := by decide +kernel
theorem d_M_step_247 : decode prog_13_method_7_code 247 = .ok (.putfield 85, 3) := by decide +kernel
theorem d_M_step_250 : decode prog_13_method_7_code 250 = .ok (.aload_n 0, 1) := by decide +kernel
theorem d_M_step_251 : decode prog_13_method_7_code 251 = .ok (.dup, 1) := by decide +kernel
theorem d_M_step_252 : decode prog_13_method_7_code 252 = .ok (.getfield 66, 3) := by decide +kernel
theorem d_M_step_255 : decode prog_13_method_7_code 255 = .ok (.iconst 1, 1) := by decide +kernel
theorem d_M_step_256 : decode prog_13_method_7_code 256 = .ok (.iadd, 1) := by decide +kernel
theorem d_M_step_257 : decode prog_13_method_7_code 257 = .ok (.putfield 66, 3) := by decide +kernel
theorem d_M_step_260 : decode prog_13_method_7_code 260 = .ok (.goto (-66), 3) := by decide +kernel
theorem d_M_step_263 : decode prog_13_method_7_code 263 = .ok (.aload_n 0, 1) := by decide +kernel
theorem d_M_step_264 : decode prog_13_method_7_code 264 = .ok (.aload_n 0, 1) := by decide +kernel
theorem d_M_step_265 : decode prog_13_method_7_code 265 = .ok (.getfield 85, 3) := by decide +kernel
theorem d_M_step_268 : decode prog_13_method_7_code 268 = .ok (.bipush 127, 2) := by decide +kernel
theorem d_M_step_270 : decode prog_13_method_7_code 270 = .ok (.if_icmp .gt 7, 3) := by decide +kernel
theorem d_M_step_273 : decode prog_13_method_7_code 273 = .ok (.iconst 2, 1) := by decide +kernel
theorem d_M_step_274 : decode prog_13_method_7_code 274 = .ok (.goto 4, 3) := by decide +kernel
theorem d_M_step_277 : decode prog_13_method_7_code 277 = .ok (.iconst 4, 1) := by decide +kernel
theorem d_M_step_278 : decode prog_13_method_7_code 278 = .ok (.putfield 75, 3) := by decide +kernel
theorem d_M_step_281 : decode prog_13_method_7_code 281 = .ok (.goto 217, 3) := by decide +kernel
theorem d_M_step_284 : decode prog_13_method_7_code 284 = .ok (.aload_n 0, 1) := by decide +kernel
theorem d_M_step_285 : decode prog_13_method_7_code 285 = .ok (.getfield 9, 3) := by decide +kernel
theorem d_M_step_288 : decode prog_13_method_7_code 288 = .ok (.aload_n 0, 1) := by decide +kernel
theorem d_M_step_289 : decode prog_13_method_7_code 289 = .ok (.getfield 66, 3) := by decide +kernel
theorem d_M_step_292 : decode prog_13_method_7_code 292 = .ok (.baload, 1) := by decide +kernel
theorem d_M_step_293 : decode prog_13_method_7_code 293 = .ok (.istore_n 1, 1) := by decide +kernel
theorem d_M_step_294 : decode prog_13_method_7_code 294 = .ok (.aload_n 0, 1) := by decide +kernel
theorem d_M_step_295 : decode prog_13_method_7_code 295 = .ok (.getfield 66, 3) := by decide +kernel
theorem d_M_step_298 : decode prog_13_method_7_code 298 = .ok (.iconst 1, 1) := by decide +kernel
theorem d_M_step_299 : decode prog_13_method_7_code 299 = .ok (.iadd, 1) := by decide +kernel
theorem d_M_step_300 : decode prog_13_method_7_code 300 = .ok (.aload_n 0, 1) := by decide +kernel
theorem d_M_step_301 : decode prog_13_method_7_code 301 = .ok (.getfield 69, 3) := by decide +kernel
theorem d_M_step_304 : decode prog_13_method_7_code 304 = .ok (.if_icmp .ge 17, 3) := by decide +kernel
theorem d_M_step_307 : decode prog_13_method_7_code 307 = .ok (.aload_n 0, 1) := by decide +kernel
theorem d_M_step_308 : decode prog_13_method_7_code 308 = .ok (.getfield 9, 3) := by decide +kernel
theorem d_M_step_311 : decode prog_13_method_7_code 311 = .ok (.aload_n 0, 1) := by decide +kernel
theorem d_M_step_312 : decode prog_13_method_7_code 312 = .ok (.getfield 66, 3) := by decide +kernel
theorem d_M_step_315 : decode prog_13_method_7_code 315 = .ok (.iconst 1, 1) := by decide +kernel
theorem d_M_step_316 : decode prog_13_method_7_code 316 = .ok (.iadd, 1) := by decide +kernel
theorem d_M_step_317 : decode prog_13_method_7_code 317 = .ok (.baload, 1) := by decide +kernel
theorem d_M_step_318 : decode prog_13_method_7_code 318 = .ok (.goto 4, 3) := by decide +kernel
theorem d_M_step_321 : decode prog_13_method_7_code 321 = .ok (.iconst 0, 1) := by decide +kernel
theorem d_M_step_322 : decode prog_13_method_7_code 322 = .ok (.istore_n 2, 1) := by decide +kernel
theorem d_M_step_323 : decode prog_13_method_7_code 323 = .ok (.iload_n 2, 1) := by decide +kernel
theorem d_M_step_324 : decode prog_13_method_7_code 324 = .ok (.bipush 61, 2) := by decide +kernel
theorem d_M_step_326 : decode prog_13_method_7_code 326 = .ok (.if_icmp .ne 27, 3) := by decide +kernel
theorem d_M_step_329 : decode prog_13_method_7_code 329 = .ok (.iload_n 1, 1) := by decide +kernel
theorem d_M_step_330 : decode prog_13_method_7_code 330 = .ok (.bipush 61, 2) := by decide +kernel
theorem d_M_step_332 : decode prog_13_method_7_code 332 = .ok (.if_icmp .eq 45, 3) := by decide +kernel
theorem d_M_step_335 : decode prog_13_method_7_code 335 = .ok (.iload_n 1, 1) := by decide +kernel
theorem d_M_step_336 : decode prog_13_method_7_code 336 = .ok (.bipush 33, 2) := by decide +kernel
theorem d_M_step_338 : decode prog_13_method_7_code 338 = .ok (.if_icmp .eq 39, 3) := by decide +kernel
theorem d_M_step_341 : decode prog_13_method_7_code 341 = .ok (.iload_n 1, 1) := by decide +kernel
theorem d_M_step_342 : decode prog_13_method_7_code 342 = .ok (.bipush 60, 2) := by decide +kernel
theorem d_M_step_344 : decode prog_13_method_7_code 344 = .ok (.if_icmp .eq 33, 3) := by decide +kernel
theorem d_M_step_347 : decode prog_13_method_7_code 347 = .ok (.iload_n 1, 1) := by decide +kernel
theorem d_M_step_348 : decode prog_13_method_7_code 348 = .ok (.bipush 62, 2) := by decide +kernel
theorem d_M_step_350 : decode prog_13_method_7_code 350 = .ok (.if_icmp .eq 27, 3) := by decide +kernel
theorem d_M_step_353 : decode prog_13_method_7_code 353 = .ok (.iload_n 1, 1) := by decide +kernel
theorem d_M_step_354 : decode prog_13_method_7_code 354 = .ok (.bipush 38, 2) := by decide +kernel
theorem d_M_step_356 : decode prog_13_method_7_code 356 = .ok (.if_icmp .ne 9, 3) := by decide +kernel
theorem d_M_step_359 : decode prog_13_method_7_code 359 = .ok (.iload_n 2, 1) := by decide +kernel
theorem d_M_step_360 : decode prog_13_method_7_code 360 = .ok (.bipush 38, 2) := by decide +kernel
theorem d_M_step_362 : decode prog_13_method_7_code 362 = .ok (.if_icmp .eq 15, 3) := by decide +kernel
theorem d_M_step_365 : decode prog_13_method_7_code 365 = .ok (.iload_n 1, 1) := by decide +kernel
theorem d_M_step_366 : decode prog_13_method_7_code 366 = .ok (.bipush 124, 2) := by decide +kernel
theorem d_M_step_368 : decode prog_13_method_7_code 368 = .ok (.if_icmp .ne 13, 3) := by decide +kernel
theorem d_M_step_371 : decode prog_13_method_7_code 371 = .ok (.iload_n 2, 1) := by decide +kernel
theorem d_M_step_372 : decode prog_13_method_7_code 372 = .ok (.bipush 124, 2) := by decide +kernel
theorem d_M_step_374 : decode prog_13_method_7_code 374 = .ok (.if_icmp .ne 7, 3) := by decide +kernel
theorem d_M_step_377 : decode prog_13_method_7_code 377 = .ok (.iconst 1, 1) := by decide +kernel
theorem d_M_step_378 : decode prog_13_method_7_code 378 = .ok (.goto 4, 3) := by decide +kernel
theorem d_M_step_381 : decode prog_13_method_7_code 381 = .ok (.iconst 0, 1) := by decide +kernel
theorem d_M_step_382 : decode prog_13_method_7_code 382 = .ok (.istore_n 3, 1) := by decide +kernel
theorem d_M_step_383 : decode prog_13_method_7_code 383 = .ok (.iload_n 1, 1) := by decide +kernel
theorem d_M_step_384 : decode prog_13_method_7_code 384 = .ok (.bipush 123, 2) := by decide +kernel
theorem d_M_step_386 : decode prog_13_method_7_code 386 = .ok (.if_icmp .eq 69, 3) := by decide +kernel
theorem d_M_step_389 : decode prog_13_method_7_code 389 = .ok (.iload_n 1, 1) := by decide +kernel
theorem d_M_step_390 : decode prog_13_method_7_code 390 = .ok (.bipush 125, 2) := by decide +kernel
theorem d_M_step_392 : decode prog_13_method_7_code 392 = .ok (.if_icmp .eq 63, 3) := by decide +kernel
theorem d_M_step_395 : decode prog_13_method_7_code 395 = .ok (.iload_n 1, 1) := by decide +kernel
theorem d_M_step_396 : decode prog_13_method_7_code 396 = .ok (.bipush 40, 2) := by decide +kernel
theorem d_M_step_398 : decode prog_13_method_7_code 398 = .ok (.if_icmp .eq 57, 3) := by decide +kernel
theorem d_M_step_401 : decode prog_13_method_7_code 401 = .ok (.iload_n 1, 1) := by decide +kernel
theorem d_M_step_402 : decode prog_13_method_7_code 402 = .ok (.bipush 41, 2) := by decide +kernel
theorem d_M_step_404 : decode prog_13_method_7_code 404 = .ok (.if_icmp .eq 51, 3) := by decide +kernel
theorem d_M_step_407 : decode prog_13_method_7_code 407 = .ok (.iload_n 1, 1) := by decide +kernel
theorem d_M_step_408 : decode prog_13_method_7_code 408 = .ok (.bipush 59, 2) := by decide +kernel
theorem d_M_step_410 : decode prog_13_method_7_code 410 = .ok (.if_icmp .eq 45, 3) := by decide +kernel
theorem d_M_step_413 : decode prog_13_method_7_code 413 = .ok (.iload_n 1, 1) := by decide +kernel
theorem d_M_step_414 : decode prog_13_method_7_code 414 = .ok (.bipush 61, 2) := by decide +kernel
theorem d_M_step_416 : decode prog_13_method_7_code 416 = .ok (.if_icmp .eq 39, 3) := by decide +kernel
theorem d_M_step_419 : decode prog_13_method_7_code 419 = .ok (.iload_n 1, 1) := by decide +kernel
theorem d_M_step_420 : decode prog_13_method_7_code 420 = .ok (.bipush 43, 2) := by decide +kernel
theorem d_M_step_422 : decode prog_13_method_7_code 422 = .ok (.if_icmp .eq 33, 3) := by decide +kernel
theorem d_M_step_425 : decode prog_13_method_7_code 425 = .ok (.iload_n 1, 1) := by decide +kernel
theorem d_M_step_426 : decode prog_13_method_7_code 426 = .ok (.bipush 45, 2) := by decide +kernel
theorem d_M_step_428 : decode prog_13_method_7_code 428 = .ok (.if_icmp .eq 27, 3) := by decide +kernel
theorem d_M_step_431 : decode prog_13_method_7_code 431 = .ok (.iload_n 1, 1) := by decide +kernel
theorem d_M_step_432 : decode prog_13_method_7_code 432 = .ok (.bipush 42, 2) := by decide +kernel
theorem d_M_step_434 : decode prog_13_method_7_code 434 = .ok (.if_icmp .eq 21, 3) := by decide +kernel
theorem d_M_step_437 : decode prog_13_method_7_code 437 = .ok (.iload_n 1, 1) := by decide +kernel
theorem d_M_step_438 : decode prog_13_method_7_code 438 = .ok (.bipush 33, 2) := by decide +kernel
theorem d_M_step_440 : decode prog_13_method_7_code 440 = .ok (.if_icmp .eq 15, 3) := by decide +kernel
theorem d_M_step_443 : decode prog_13_method_7_code 443 = .ok (.iload_n 1, 1) := by decide +kernel
theorem d_M_step_444 : decode prog_13_method_7_code 444 = .ok (.bipush 60, 2) := by decide +kernel
theorem d_M_step_446 : decode prog_13_method_7_code 446 = .ok (.if_icmp .eq 9, 3) := by decide +kernel
theorem d_M_step_449 : decode prog_13_method_7_code 449 = .ok (.iload_n 1, 1) := by decide +kernel
theorem d_M_step_450 : decode prog_13_method_7_code 450 = .ok (.bipush 62, 2) := by decide +kernel
theorem d_M_step_452 : decode prog_13_method_7_code 452 = .ok (.if_icmp .ne 7, 3) := by decide +kernel
theorem d_M_step_455 : decode prog_13_method_7_code 455 = .ok (.iconst 1, 1) := by decide +kernel
theorem d_M_step_456 : decode prog_13_method_7_code 456 = .ok (.goto 4, 3) := by decide +kernel
theorem d_M_step_459 : decode prog_13_method_7_code 459 = .ok (.iconst 0, 1) := by decide +kernel
theorem d_M_step_460 : decode prog_13_method_7_code 460 = .ok (.istore 4, 2) := by decide +kernel
theorem d_M_step_462 : decode prog_13_method_7_code 462 = .ok (.aload_n 0, 1) := by decide +kernel
theorem d_M_step_463 : decode prog_13_method_7_code 463 = .ok (.iload_n 3, 1) := by decide +kernel
theorem d_M_step_464 : decode prog_13_method_7_code 464 = .ok (.ifCond .ne 8, 3) := by decide +kernel
theorem d_M_step_467 : decode prog_13_method_7_code 467 = .ok (.iload 4, 2) := by decide +kernel
theorem d_M_step_469 : decode prog_13_method_7_code 469 = .ok (.ifCond .eq 7, 3) := by decide +kernel
theorem d_M_step_472 : decode prog_13_method_7_code 472 = .ok (.iconst 3, 1) := by decide +kernel
theorem d_M_step_473 : decode prog_13_method_7_code 473 = .ok (.goto 4, 3) := by decide +kernel
theorem d_M_step_476 : decode prog_13_method_7_code 476 = .ok (.iconst 4, 1) := by decide +kernel
theorem d_M_step_477 : decode prog_13_method_7_code 477 = .ok (.putfield 75, 3) := by decide +kernel
theorem d_M_step_480 : decode prog_13_method_7_code 480 = .ok (.aload_n 0, 1) := by decide +kernel
theorem d_M_step_481 : decode prog_13_method_7_code 481 = .ok (.dup, 1) := by decide +kernel
theorem d_M_step_482 : decode prog_13_method_7_code 482 = .ok (.getfield 66, 3) := by decide +kernel
theorem d_M_step_485 : decode prog_13_method_7_code 485 = .ok (.iload_n 3, 1) := by decide +kernel
theorem d_M_step_486 : decode prog_13_method_7_code 486 = .ok (.ifCond .eq 7, 3) := by decide +kernel
theorem d_M_step_489 : decode prog_13_method_7_code 489 = .ok (.iconst 2, 1) := by decide +kernel
theorem d_M_step_490 : decode prog_13_method_7_code 490 = .ok (.goto 4, 3) := by decide +kernel
theorem d_M_step_493 : decode prog_13_method_7_code 493 = .ok (.iconst 1, 1) := by decide +kernel
theorem d_M_step_494 : decode prog_13_method_7_code 494 = .ok (.iadd, 1) := by decide +kernel
theorem d_M_step_495 : decode prog_13_method_7_code 495 = .ok (.putfield 66, 3) := by decide +kernel
theorem d_M_step_498 : decode prog_13_method_7_code 498 = .ok (.aload_n 0, 1) := by decide +kernel
theorem d_M_step_499 : decode prog_13_method_7_code 499 = .ok (.aload_n 0, 1) := by decide +kernel
theorem d_M_step_500 : decode prog_13_method_7_code 500 = .ok (.getfield 66, 3) := by decide +kernel
theorem d_M_step_503 : decode prog_13_method_7_code 503 = .ok (.putfield 94, 3) := by decide +kernel
theorem d_M_step_506 : decode prog_13_method_7_code 506 = .ok (.return_, 1) := by decide +kernel
def zf_M_step_498 (F : Nat)   (σ : zs_S) : Option (zs_S) :=
  zq_v (zs_wi σ 1 9 (zs_i σ 1 6)) fun σ33 =>
  some σ33
def zf_M_step_494 (F : Nat)  (t0 : Int32) (t1 : Int32) (σ : zs_S) : Option (zs_S) :=
  zq_v (zs_wi σ 1 6 (t1 + t0)) fun σ38 =>
  zf_M_step_498 F σ38
def zf_M_step_477 (F : Nat)  (x3 : Int32) (t0 : Int32) (σ : zs_S) : Option (zs_S) :=
  zq_v (zs_wi σ 1 7 t0) fun σ37 =>
  if x3 = 0 then (
    zf_M_step_494 F 1 (zs_i σ37 1 6) σ37
  ) else (
    zf_M_step_494 F 2 (zs_i σ37 1 6) σ37
  )
def zf_M_step_472 (F : Nat)  (x3 : Int32) (σ : zs_S) : Option (zs_S) :=
  zf_M_step_477 F x3 3 σ
def zf_M_step_460 (F : Nat)  (x3 : Int32) (t0 : Int32) (σ : zs_S) : Option (zs_S) :=
  if x3 = 0 then (
    if t0 = 0 then (
      zf_M_step_477 F x3 4 σ
    ) else (
      zf_M_step_472 F x3 σ
    )
  ) else (
    zf_M_step_472 F x3 σ
  )
def zf_M_step_455 (F : Nat)  (x3 : Int32) (σ : zs_S) : Option (zs_S) :=
  zf_M_step_460 F x3 1 σ
def zf_M_step_382 (F : Nat)  (x1 : Int32) (t0 : Int32) (σ : zs_S) : Option (zs_S) :=
  if x1 = 123 then (
    zf_M_step_455 F t0 σ
  ) else (
    if x1 = 125 then (
      zf_M_step_455 F t0 σ
    ) else (
      if x1 = 40 then (
        zf_M_step_455 F t0 σ
      ) else (
        if x1 = 41 then (
          zf_M_step_455 F t0 σ
        ) else (
          if x1 = 59 then (
            zf_M_step_455 F t0 σ
          ) else (
            if x1 = 61 then (
              zf_M_step_455 F t0 σ
            ) else (
              if x1 = 43 then (
                zf_M_step_455 F t0 σ
              ) else (
                if x1 = 45 then (
                  zf_M_step_455 F t0 σ
                ) else (
                  if x1 = 42 then (
                    zf_M_step_455 F t0 σ
                  ) else (
                    if x1 = 33 then (
                      zf_M_step_455 F t0 σ
                    ) else (
                      if x1 = 60 then (
                        zf_M_step_455 F t0 σ
                      ) else (
                        if x1 = 62 then (
                          zf_M_step_455 F t0 σ
                        ) else (
                          zf_M_step_460 F t0 0 σ
                        )
                      )
                    )
                  )
                )
              )
            )
          )
        )
      )
    )
  )
def zf_M_step_381 (F : Nat)  (x1 : Int32) (σ : zs_S) : Option (zs_S) :=
  zf_M_step_382 F x1 0 σ
def zf_M_step_377 (F : Nat)  (x1 : Int32) (σ : zs_S) : Option (zs_S) :=
  zf_M_step_382 F x1 1 σ
def zf_M_step_365 (F : Nat)  (x1 : Int32) (x2 : Int32) (σ : zs_S) : Option (zs_S) :=
  if x1 = 124 then (
    if x2 = 124 then (
      zf_M_step_377 F x1 σ
    ) else (
      zf_M_step_381 F x1 σ
    )
  ) else (
    zf_M_step_381 F x1 σ
  )
def zf_M_step_353 (F : Nat)  (x1 : Int32) (x2 : Int32) (σ : zs_S) : Option (zs_S) :=
  if x1 = 38 then (
    if x2 = 38 then (
      zf_M_step_377 F x1 σ
    ) else (
      zf_M_step_365 F x1 x2 σ
    )
  ) else (
    zf_M_step_365 F x1 x2 σ
  )
def zf_M_step_322 (F : Nat)  (x1 : Int32) (t0 : Int32) (σ : zs_S) : Option (zs_S) :=
  if t0 = 61 then (
    if x1 = 61 then (
      zf_M_step_377 F x1 σ
    ) else (
      if x1 = 33 then (
        zf_M_step_377 F x1 σ
      ) else (
        if x1 = 60 then (
          zf_M_step_377 F x1 σ
        ) else (
          if x1 = 62 then (
            zf_M_step_377 F x1 σ
          ) else (
            zf_M_step_353 F x1 t0 σ
          )
        )
      )
    )
  ) else (
    zf_M_step_353 F x1 t0 σ
  )
def zf_M_step_278 (F : Nat)  (t0 : Int32) (σ : zs_S) : Option (zs_S) :=
  zq_v (zs_wi σ 1 7 t0) fun σ36 =>
  zf_M_step_498 F σ36
def zf_M_step_263 (F : Nat)   (σ : zs_S) : Option (zs_S) :=
  if 127 < (zs_i σ 1 10) then (
    zf_M_step_278 F 4 σ
  ) else (
    zf_M_step_278 F 2 σ
  )
def zf_M_step_194 (F : Nat)  : Nat → zs_S → Option (zs_S)
  | 0, _ => none
  | n + 1, σ =>
    if (zs_i σ 1 5) ≤ (zs_i σ 1 6) then (
      zf_M_step_263 F σ
    ) else (
      zq_g (zq_b (zs_i σ 1 6) 1600) <|
      zq_c (zf_M_isDigit F (zs_i σ 2 (zs_i σ 1 6).toNatClampNeg) σ) fun r28 σ27 =>
      if r28 = 0 then (
        zf_M_step_263 F σ27
      ) else (
        zq_g (zq_b (zs_i σ27 1 6) 1600) <|
        zq_v (zs_wi σ27 1 10 (if ((10 * (zs_i σ27 1 10)) + (zs_i σ27 2 (zs_i σ27 1 6).toNatClampNeg)) - 48 < 1000 then ((10 * (zs_i σ27 1 10)) + (zs_i σ27 2 (zs_i σ27 1 6).toNatClampNeg)) - 48 else 1000)) fun σ31 =>
        zq_v (zs_wi σ31 1 6 ((zs_i σ31 1 6) + 1)) fun σ32 =>
        (zf_M_step_194 F n) σ32
      )
    )
def zf_M_step_168 (F : Nat)  (t0 : Int32) (σ : zs_S) : Option (zs_S) :=
  zq_v (zs_wi σ 1 7 t0) fun σ35 =>
  zf_M_step_498 F σ35
def zf_M_step_148 (F : Nat)   (σ : zs_S) : Option (zs_S) :=
  if 8 < ((zs_i σ 1 6) - (zs_i σ 1 8)) then (
    zf_M_step_168 F 4 σ
  ) else (
    zf_M_step_168 F 1 σ
  )
def zf_M_step_135 (F : Nat) (k94 : zs_S → Option (zs_S))  (σ : zs_S) : Option (zs_S) :=
  zq_v (zs_wi σ 1 6 ((zs_i σ 1 6) + 1)) fun σ34 =>
  k94 σ34
def zf_M_step_94 (F : Nat)  : Nat → zs_S → Option (zs_S)
  | 0, _ => none
  | n + 1, σ =>
    if (zs_i σ 1 5) ≤ (zs_i σ 1 6) then (
      zf_M_step_148 F σ
    ) else (
      zq_g (zq_b (zs_i σ 1 6) 1600) <|
      zq_c (zf_M_isSmall F (zs_i σ 2 (zs_i σ 1 6).toNatClampNeg) σ) fun r20 σ19 =>
      if r20 = 0 then (
        zq_g (zq_b (zs_i σ19 1 6) 1600) <|
        zq_c (zf_M_isDigit F (zs_i σ19 2 (zs_i σ19 1 6).toNatClampNeg) σ19) fun r24 σ23 =>
        if r24 = 0 then (
          zf_M_step_148 F σ23
        ) else (
          zf_M_step_135 F (zf_M_step_94 F n) σ23
        )
      ) else (
        zf_M_step_135 F (zf_M_step_94 F n) σ19
      )
    )
def zf_M_step_52 (F : Nat)   (σ : zs_S) : Option (zs_S) :=
  zq_v (zs_wi σ 1 8 (zs_i σ 1 6)) fun σ4 =>
  if (zs_i σ4 1 8) = (zs_i σ4 1 5) then (
    zq_v (zs_wi σ4 1 7 0) fun σ17 =>
    zf_M_step_498 F σ17
  ) else (
    zq_g (zq_b (zs_i σ4 1 8) 1600) <|
    zq_c (zf_M_isSmall F (zs_i σ4 2 (zs_i σ4 1 8).toNatClampNeg) σ4) fun r7 σ6 =>
    if r7 = 0 then (
      zq_g (zq_b (zs_i σ6 1 8) 1600) <|
      zq_c (zf_M_isDigit F (zs_i σ6 2 (zs_i σ6 1 8).toNatClampNeg) σ6) fun r11 σ10 =>
      if r11 = 0 then (
        zq_g (zq_b (zs_i σ10 1 6) 1600) <|
        zq_v (zs_i σ10 2 (zs_i σ10 1 6).toNatClampNeg) fun v14 =>
        if (zs_i σ10 1 5) ≤ ((zs_i σ10 1 6) + 1) then (
          zf_M_step_322 F v14 0 σ10
        ) else (
          zq_g (zq_b ((zs_i σ10 1 6) + 1) 1600) <|
          zf_M_step_322 F v14 (zs_i σ10 2 ((zs_i σ10 1 6) + 1).toNatClampNeg) σ10
        )
      ) else (
        zq_v (zs_wi σ10 1 10 0) fun σ16 =>
        zf_M_step_194 F F σ16
      )
    ) else (
      zf_M_step_94 F F σ6
    )
  )
def zf_M_step_39 (F : Nat) (k0 : zs_S → Option (zs_S))  (σ : zs_S) : Option (zs_S) :=
  zq_v (zs_wi σ 1 6 ((zs_i σ 1 6) + 1)) fun σ3 =>
  k0 σ3
def zf_M_step_0 (F : Nat)  : Nat → zs_S → Option (zs_S)
  | 0, _ => none
  | n + 1, σ =>
    if (zs_i σ 1 5) ≤ (zs_i σ 1 6) then (
      zf_M_step_52 F σ
    ) else (
      zq_g (zq_b (zs_i σ 1 6) 1600) <|
      if (zs_i σ 2 (zs_i σ 1 6).toNatClampNeg) = 32 then (
        zf_M_step_39 F (zf_M_step_0 F n) σ
      ) else (
        zq_g (zq_b (zs_i σ 1 6) 1600) <|
        if (zs_i σ 2 (zs_i σ 1 6).toNatClampNeg) = 10 then (
          zf_M_step_39 F (zf_M_step_0 F n) σ
        ) else (
          zf_M_step_52 F σ
        )
      )
    )
def zf_M_step (F : Nat)  (σ : zs_S) : Option (zs_S) :=
  zf_M_step_0 F F σ
set_option maxHeartbeats 4000000 in
set_option maxRecDepth 100000 in
theorem zc_M_step {l : Launch} {D : va_G} {cA : Nat → ClassId} {ad : Nat → Nat} {A : Nat → Prop} {F : Nat}  {σ : zs_S} {q : zs_S} (hJ : zs_J ad) (hf : zf_M_step F  σ = some q) : Met l y_M_step (.code y_M_step prog_13_method_7_code 5 none :: zd_ww) { frames := 1, cells := 0, slots := 0, locals := 60 } (va_Pc [.ref (ad 1)] (zs_U 1 D cA ad A σ)) (zs_Qv 1 D cA ad A q) 0 0 A := by
  refine Met.ofW (cc := prog_13_method_7_code) (maxL := 5) (ret := none) (by decide) rfl ?_
  intro p e s m args below meth c s₁ B hml hv
  obtain ⟨hargs, hP, hK, hD, hZ⟩ := hv
  have G : zs_G 1 p s m args c prog_13_method_7_code 5 "ScheduleCheckModel" D cA ad A := ⟨⟨B.exec, B.bytes, hml, findClass_of_methodNamed B.named, fun w h => atoms_spec B.pre w (List.mem_cons_of_mem _ h)⟩, hK, hJ, hZ⟩
  have hw : zs_I 1 D cA ad A s σ s.heap [] := ⟨hP, hD, va_S.rf⟩
  have hx := G.1.1
  have hb := G.1.2.1
  have hown := G.1.2.2.2.1
  have hts := G.1.2.2.2.2
  have hr := B.returns
  have hlocks := B.notSynchronized
  have he : entryFrame m args 5 = F0 m 0 ((lg_sl [.ref (ad 1)] ++ List.replicate (5 - (lg_sl [.ref (ad 1)]).length) Slot.unset).toArray) [] := by rw [hargs]; exact lg_entry_eq m _ 5
  have hl := lv_entry [.ref (ad 1)] (n := 5) (Nat.le_of_ble_eq_true rfl)
  rw [he]
  generalize (lg_sl [.ref (ad 1)] ++ List.replicate (5 - (lg_sl [.ref (ad 1)]).length) Slot.unset).toArray = ls at hl
  have hl : lv_has ls 5 [(0, .ref (ad 1))] := hl
  obtain ⟨RR, hR⟩ : ∃ z, z = (headSpec (.code y_M_step prog_13_method_7_code 5 none :: zd_ww) { frames := 1, cells := 0, slots := 0, locals := 60 }).room := ⟨_, rfl⟩
  rw [← hR]
  obtain ⟨QQ, hQ⟩ : ∃ z, z = MQ below (zs_Qv 1 D cA ad A q) args s 0 0 A := ⟨_, rfl⟩
  rw [← hQ]
  have hR1 : 1 ≤ RR.frames := by rw [hR]; exact Nat.le_refl _
  have hR2 : 60 ≤ RR.locals := by rw [hR]; exact Nat.le_refl _
  generalize s.heap = H at hw ⊢
  generalize ([] : List Loc) = locs at hw ⊢
  have K498 : ∀ (σ : zs_S) (H : Heap) (locs : List Loc) (ls : Array Slot), zf_M_step_498 F σ = some q → zs_I 1 D cA ad A s σ H locs → lv_has ls 5 [(0, .ref (ad 1))] → W p l e RR s m args below meth c H locs 0 0 QQ (F0 m 498 ls []) := by
    intro   σ H locs ls hf hw hl
    unfold zf_M_step_498 at hf
    refine lv_aload_n hx hb d_M_step_498 rfl (lv_at hl 0 rfl) ?_
    refine lv_aload_n hx hb d_M_step_499 rfl (lv_at hl 0 rfl) ?_
    refine zr_get (ci := 8) G hw 1 6 zi_8 rfl rfl rfl (by decide) zm_545 (fun _ h => h) (v := .int (zs_i σ 1 6)) rfl d_M_step_500 ?_
    obtain ⟨σ33, e_σ33, hf⟩ := zq_ss hf
    refine zr_puti (ci := 8) G hw 1 9 zi_8 t_zd8 t_zd8_ok n_zd8 rfl rfl rfl (by decide) rfl zm_558 (fun _ h => h) rfl (x := (zs_i σ 1 6)) (t_zd8_ok 9 (by decide)) rfl rfl d_M_step_503 (fun H locs hw => ?_)
    rw [← e_σ33] at hw
    exact zr_vret G hw hr hlocks hf hQ d_M_step_506
  have K494 : ∀ (t0 : Int32) (t1 : Int32) (σ : zs_S) (H : Heap) (locs : List Loc) (ls : Array Slot), zf_M_step_494 F t0 t1 σ = some q → zs_I 1 D cA ad A s σ H locs → lv_has ls 5 [(0, .ref (ad 1))] → W p l e RR s m args below meth c H locs 0 0 QQ (F0 m 494 ls [.int t0, .int t1, .ref (ad 1)]) := by
    intro  t0 t1 σ H locs ls hf hw hl
    unfold zf_M_step_494 at hf
    refine lv_iadd hx hb d_M_step_494 ?_
    obtain ⟨σ38, e_σ38, hf⟩ := zq_ss hf
    refine zr_puti (ci := 8) G hw 1 6 zi_8 t_zd8 t_zd8_ok n_zd8 rfl rfl rfl (by decide) rfl zm_545 (fun _ h => h) rfl (x := (t1 + t0)) (t_zd8_ok 6 (by decide)) rfl rfl d_M_step_495 (fun H locs hw => ?_)
    rw [← e_σ38] at hw
    exact K498 σ38 H locs ls hf hw (lv_sub hl [0] rfl)
  have K477 : ∀ (x3 : Int32) (t0 : Int32) (σ : zs_S) (H : Heap) (locs : List Loc) (ls : Array Slot), zf_M_step_477 F x3 t0 σ = some q → zs_I 1 D cA ad A s σ H locs → lv_has ls 5 [(0, .ref (ad 1)), (3, .int x3)] → W p l e RR s m args below meth c H locs 0 0 QQ (F0 m 477 ls [.int t0, .ref (ad 1)]) := by
    intro  x3 t0 σ H locs ls hf hw hl
    unfold zf_M_step_477 at hf
    obtain ⟨σ37, e_σ37, hf⟩ := zq_ss hf
    refine zr_puti (ci := 8) G hw 1 7 zi_8 t_zd8 t_zd8_ok n_zd8 rfl rfl rfl (by decide) rfl zm_556 (fun _ h => h) rfl (x := t0) (t_zd8_ok 7 (by decide)) rfl rfl d_M_step_477 (fun H locs hw => ?_)
    rw [← e_σ37] at hw
    refine lv_aload_n hx hb d_M_step_480 rfl (lv_at hl 0 rfl) ?_
    refine lv_dup hx hb d_M_step_481 rfl ?_
    refine zr_get (ci := 8) G hw 1 6 zi_8 rfl rfl rfl (by decide) zm_545 (fun _ h => h) (v := .int (zs_i σ37 1 6)) rfl d_M_step_482 ?_
    refine lv_iload_n hx hb d_M_step_485 rfl (lv_at hl 1 rfl) ?_
    refine lv_if_eq hx hb d_M_step_486 (tgt := 493) rfl (fun hc => ?_) (fun hc => ?_)
    · have hf := (if_pos hc).symm.trans hf
      refine lv_iconst (v := 1) hx hb d_M_step_493 (by decide) ?_
      exact K494 1 (zs_i σ37 1 6) σ37 H locs ls hf hw (lv_sub hl [0] rfl)
    · have hf := (if_neg hc).symm.trans hf
      refine lv_iconst (v := 2) hx hb d_M_step_489 (by decide) ?_
      refine lv_goto hx hb d_M_step_490 (tgt := 494) rfl ?_
      exact K494 2 (zs_i σ37 1 6) σ37 H locs ls hf hw (lv_sub hl [0] rfl)
  have K472 : ∀ (x3 : Int32) (σ : zs_S) (H : Heap) (locs : List Loc) (ls : Array Slot), zf_M_step_472 F x3 σ = some q → zs_I 1 D cA ad A s σ H locs → lv_has ls 5 [(0, .ref (ad 1)), (3, .int x3)] → W p l e RR s m args below meth c H locs 0 0 QQ (F0 m 472 ls [.ref (ad 1)]) := by
    intro  x3 σ H locs ls hf hw hl
    unfold zf_M_step_472 at hf
    refine lv_iconst (v := 3) hx hb d_M_step_472 (by decide) ?_
    refine lv_goto hx hb d_M_step_473 (tgt := 477) rfl ?_
    exact K477 x3 3 σ H locs ls hf hw (lv_sub hl [0, 1] rfl)
  have K460 : ∀ (x3 : Int32) (t0 : Int32) (σ : zs_S) (H : Heap) (locs : List Loc) (ls : Array Slot), zf_M_step_460 F x3 t0 σ = some q → zs_I 1 D cA ad A s σ H locs → lv_has ls 5 [(0, .ref (ad 1)), (3, .int x3)] → W p l e RR s m args below meth c H locs 0 0 QQ (F0 m 460 ls [.int t0]) := by
    intro  x3 t0 σ H locs ls hf hw hl
    unfold zf_M_step_460 at hf
    refine lv_istore hx hb d_M_step_460 hl (by decide) rfl (fun ls hl => ?_)
    have hl : lv_has ls 5 [(4, .int t0), (0, .ref (ad 1)), (3, .int x3)] := hl
    refine lv_aload_n hx hb d_M_step_462 rfl (lv_at hl 1 rfl) ?_
    refine lv_iload_n hx hb d_M_step_463 rfl (lv_at hl 2 rfl) ?_
    refine lv_if_ne hx hb d_M_step_464 (tgt := 472) rfl (fun hc => ?_) (fun hc => ?_)
    · have hf := (if_neg hc).symm.trans hf
      exact K472 x3 σ H locs ls hf hw (lv_sub hl [1, 2] rfl)
    · have hf := (if_pos hc).symm.trans hf
      refine lv_iload hx hb d_M_step_467 (lv_at hl 0 rfl) ?_
      refine lv_if_eq hx hb d_M_step_469 (tgt := 476) rfl (fun hc => ?_) (fun hc => ?_)
      · have hf := (if_pos hc).symm.trans hf
        refine lv_iconst (v := 4) hx hb d_M_step_476 (by decide) ?_
        exact K477 x3 4 σ H locs ls hf hw (lv_sub hl [1, 2] rfl)
      · have hf := (if_neg hc).symm.trans hf
        exact K472 x3 σ H locs ls hf hw (lv_sub hl [1, 2] rfl)
  have K455 : ∀ (x3 : Int32) (σ : zs_S) (H : Heap) (locs : List Loc) (ls : Array Slot), zf_M_step_455 F x3 σ = some q → zs_I 1 D cA ad A s σ H locs → lv_has ls 5 [(0, .ref (ad 1)), (3, .int x3)] → W p l e RR s m args below meth c H locs 0 0 QQ (F0 m 455 ls []) := by
    intro  x3 σ H locs ls hf hw hl
    unfold zf_M_step_455 at hf
    refine lv_iconst (v := 1) hx hb d_M_step_455 (by decide) ?_
    refine lv_goto hx hb d_M_step_456 (tgt := 460) rfl ?_
    exact K460 x3 1 σ H locs ls hf hw (lv_sub hl [0, 1] rfl)
  have K382 : ∀ (x1 : Int32) (t0 : Int32) (σ : zs_S) (H : Heap) (locs : List Loc) (ls : Array Slot), zf_M_step_382 F x1 t0 σ = some q → zs_I 1 D cA ad A s σ H locs → lv_has ls 5 [(0, .ref (ad 1)), (1, .int x1)] → W p l e RR s m args below meth c H locs 0 0 QQ (F0 m 382 ls [.int t0]) := by
    intro  x1 t0 σ H locs ls hf hw hl
    unfold zf_M_step_382 at hf
    refine lv_istore_n hx hb d_M_step_382 rfl hl (by decide) rfl (fun ls hl => ?_)
    have hl : lv_has ls 5 [(3, .int t0), (0, .ref (ad 1)), (1, .int x1)] := hl
    refine lv_iload_n hx hb d_M_step_383 rfl (lv_at hl 2 rfl) ?_
    refine lv_bipush (v := 123) hx hb d_M_step_384 (by decide) ?_
    refine lv_icmp_eq hx hb d_M_step_386 (tgt := 455) rfl (fun hc => ?_) (fun hc => ?_)
    · have hf := (if_pos hc).symm.trans hf
      exact K455 t0 σ H locs ls hf hw (lv_sub hl [1, 0] rfl)
    · have hf := (if_neg hc).symm.trans hf
      refine lv_iload_n hx hb d_M_step_389 rfl (lv_at hl 2 rfl) ?_
      refine lv_bipush (v := 125) hx hb d_M_step_390 (by decide) ?_
      refine lv_icmp_eq hx hb d_M_step_392 (tgt := 455) rfl (fun hc => ?_) (fun hc => ?_)
      · have hf := (if_pos hc).symm.trans hf
        exact K455 t0 σ H locs ls hf hw (lv_sub hl [1, 0] rfl)
      · have hf := (if_neg hc).symm.trans hf
        refine lv_iload_n hx hb d_M_step_395 rfl (lv_at hl 2 rfl) ?_
        refine lv_bipush (v := 40) hx hb d_M_step_396 (by decide) ?_
        refine lv_icmp_eq hx hb d_M_step_398 (tgt := 455) rfl (fun hc => ?_) (fun hc => ?_)
        · have hf := (if_pos hc).symm.trans hf
          exact K455 t0 σ H locs ls hf hw (lv_sub hl [1, 0] rfl)
        · have hf := (if_neg hc).symm.trans hf
          refine lv_iload_n hx hb d_M_step_401 rfl (lv_at hl 2 rfl) ?_
          refine lv_bipush (v := 41) hx hb d_M_step_402 (by decide) ?_
          refine lv_icmp_eq hx hb d_M_step_404 (tgt := 455) rfl (fun hc => ?_) (fun hc => ?_)
          · have hf := (if_pos hc).symm.trans hf
            exact K455 t0 σ H locs ls hf hw (lv_sub hl [1, 0] rfl)
          · have hf := (if_neg hc).symm.trans hf
            refine lv_iload_n hx hb d_M_step_407 rfl (lv_at hl 2 rfl) ?_
            refine lv_bipush (v := 59) hx hb d_M_step_408 (by decide) ?_
            refine lv_icmp_eq hx hb d_M_step_410 (tgt := 455) rfl (fun hc => ?_) (fun hc => ?_)
            · have hf := (if_pos hc).symm.trans hf
              exact K455 t0 σ H locs ls hf hw (lv_sub hl [1, 0] rfl)
            · have hf := (if_neg hc).symm.trans hf
              refine lv_iload_n hx hb d_M_step_413 rfl (lv_at hl 2 rfl) ?_
              refine lv_bipush (v := 61) hx hb d_M_step_414 (by decide) ?_
              refine lv_icmp_eq hx hb d_M_step_416 (tgt := 455) rfl (fun hc => ?_) (fun hc => ?_)
              · have hf := (if_pos hc).symm.trans hf
                exact K455 t0 σ H locs ls hf hw (lv_sub hl [1, 0] rfl)
              · have hf := (if_neg hc).symm.trans hf
                refine lv_iload_n hx hb d_M_step_419 rfl (lv_at hl 2 rfl) ?_
                refine lv_bipush (v := 43) hx hb d_M_step_420 (by decide) ?_
                refine lv_icmp_eq hx hb d_M_step_422 (tgt := 455) rfl (fun hc => ?_) (fun hc => ?_)
                · have hf := (if_pos hc).symm.trans hf
                  exact K455 t0 σ H locs ls hf hw (lv_sub hl [1, 0] rfl)
                · have hf := (if_neg hc).symm.trans hf
                  refine lv_iload_n hx hb d_M_step_425 rfl (lv_at hl 2 rfl) ?_
                  refine lv_bipush (v := 45) hx hb d_M_step_426 (by decide) ?_
                  refine lv_icmp_eq hx hb d_M_step_428 (tgt := 455) rfl (fun hc => ?_) (fun hc => ?_)
                  · have hf := (if_pos hc).symm.trans hf
                    exact K455 t0 σ H locs ls hf hw (lv_sub hl [1, 0] rfl)
                  · have hf := (if_neg hc).symm.trans hf
                    refine lv_iload_n hx hb d_M_step_431 rfl (lv_at hl 2 rfl) ?_
                    refine lv_bipush (v := 42) hx hb d_M_step_432 (by decide) ?_
                    refine lv_icmp_eq hx hb d_M_step_434 (tgt := 455) rfl (fun hc => ?_) (fun hc => ?_)
                    · have hf := (if_pos hc).symm.trans hf
                      exact K455 t0 σ H locs ls hf hw (lv_sub hl [1, 0] rfl)
                    · have hf := (if_neg hc).symm.trans hf
                      refine lv_iload_n hx hb d_M_step_437 rfl (lv_at hl 2 rfl) ?_
                      refine lv_bipush (v := 33) hx hb d_M_step_438 (by decide) ?_
                      refine lv_icmp_eq hx hb d_M_step_440 (tgt := 455) rfl (fun hc => ?_) (fun hc => ?_)
                      · have hf := (if_pos hc).symm.trans hf
                        exact K455 t0 σ H locs ls hf hw (lv_sub hl [1, 0] rfl)
                      · have hf := (if_neg hc).symm.trans hf
                        refine lv_iload_n hx hb d_M_step_443 rfl (lv_at hl 2 rfl) ?_
                        refine lv_bipush (v := 60) hx hb d_M_step_444 (by decide) ?_
                        refine lv_icmp_eq hx hb d_M_step_446 (tgt := 455) rfl (fun hc => ?_) (fun hc => ?_)
                        · have hf := (if_pos hc).symm.trans hf
                          exact K455 t0 σ H locs ls hf hw (lv_sub hl [1, 0] rfl)
                        · have hf := (if_neg hc).symm.trans hf
                          refine lv_iload_n hx hb d_M_step_449 rfl (lv_at hl 2 rfl) ?_
                          refine lv_bipush (v := 62) hx hb d_M_step_450 (by decide) ?_
                          refine lv_icmp_ne hx hb d_M_step_452 (tgt := 459) rfl (fun hc => ?_) (fun hc => ?_)
                          · have hf := (if_neg hc).symm.trans hf
                            refine lv_iconst (v := 0) hx hb d_M_step_459 (by decide) ?_
                            exact K460 t0 0 σ H locs ls hf hw (lv_sub hl [1, 0] rfl)
                          · have hf := (if_pos hc).symm.trans hf
                            exact K455 t0 σ H locs ls hf hw (lv_sub hl [1, 0] rfl)
  have K381 : ∀ (x1 : Int32) (σ : zs_S) (H : Heap) (locs : List Loc) (ls : Array Slot), zf_M_step_381 F x1 σ = some q → zs_I 1 D cA ad A s σ H locs → lv_has ls 5 [(0, .ref (ad 1)), (1, .int x1)] → W p l e RR s m args below meth c H locs 0 0 QQ (F0 m 381 ls []) := by
    intro  x1 σ H locs ls hf hw hl
    unfold zf_M_step_381 at hf
    refine lv_iconst (v := 0) hx hb d_M_step_381 (by decide) ?_
    exact K382 x1 0 σ H locs ls hf hw (lv_sub hl [0, 1] rfl)
  have K377 : ∀ (x1 : Int32) (σ : zs_S) (H : Heap) (locs : List Loc) (ls : Array Slot), zf_M_step_377 F x1 σ = some q → zs_I 1 D cA ad A s σ H locs → lv_has ls 5 [(0, .ref (ad 1)), (1, .int x1)] → W p l e RR s m args below meth c H locs 0 0 QQ (F0 m 377 ls []) := by
    intro  x1 σ H locs ls hf hw hl
    unfold zf_M_step_377 at hf
    refine lv_iconst (v := 1) hx hb d_M_step_377 (by decide) ?_
    refine lv_goto hx hb d_M_step_378 (tgt := 382) rfl ?_
    exact K382 x1 1 σ H locs ls hf hw (lv_sub hl [0, 1] rfl)
  have K365 : ∀ (x1 : Int32) (x2 : Int32) (σ : zs_S) (H : Heap) (locs : List Loc) (ls : Array Slot), zf_M_step_365 F x1 x2 σ = some q → zs_I 1 D cA ad A s σ H locs → lv_has ls 5 [(0, .ref (ad 1)), (1, .int x1), (2, .int x2)] → W p l e RR s m args below meth c H locs 0 0 QQ (F0 m 365 ls []) := by
    intro  x1 x2 σ H locs ls hf hw hl
    unfold zf_M_step_365 at hf
    refine lv_iload_n hx hb d_M_step_365 rfl (lv_at hl 1 rfl) ?_
    refine lv_bipush (v := 124) hx hb d_M_step_366 (by decide) ?_
    refine lv_icmp_ne hx hb d_M_step_368 (tgt := 381) rfl (fun hc => ?_) (fun hc => ?_)
    · have hf := (if_neg hc).symm.trans hf
      exact K381 x1 σ H locs ls hf hw (lv_sub hl [0, 1] rfl)
    · have hf := (if_pos hc).symm.trans hf
      refine lv_iload_n hx hb d_M_step_371 rfl (lv_at hl 2 rfl) ?_
      refine lv_bipush (v := 124) hx hb d_M_step_372 (by decide) ?_
      refine lv_icmp_ne hx hb d_M_step_374 (tgt := 381) rfl (fun hc => ?_) (fun hc => ?_)
      · have hf := (if_neg hc).symm.trans hf
        exact K381 x1 σ H locs ls hf hw (lv_sub hl [0, 1] rfl)
      · have hf := (if_pos hc).symm.trans hf
        exact K377 x1 σ H locs ls hf hw (lv_sub hl [0, 1] rfl)
  have K353 : ∀ (x1 : Int32) (x2 : Int32) (σ : zs_S) (H : Heap) (locs : List Loc) (ls : Array Slot), zf_M_step_353 F x1 x2 σ = some q → zs_I 1 D cA ad A s σ H locs → lv_has ls 5 [(0, .ref (ad 1)), (1, .int x1), (2, .int x2)] → W p l e RR s m args below meth c H locs 0 0 QQ (F0 m 353 ls []) := by
    intro  x1 x2 σ H locs ls hf hw hl
    unfold zf_M_step_353 at hf
    refine lv_iload_n hx hb d_M_step_353 rfl (lv_at hl 1 rfl) ?_
    refine lv_bipush (v := 38) hx hb d_M_step_354 (by decide) ?_
    refine lv_icmp_ne hx hb d_M_step_356 (tgt := 365) rfl (fun hc => ?_) (fun hc => ?_)
    · have hf := (if_neg hc).symm.trans hf
      exact K365 x1 x2 σ H locs ls hf hw (lv_sub hl [0, 1, 2] rfl)
    · have hf := (if_pos hc).symm.trans hf
      refine lv_iload_n hx hb d_M_step_359 rfl (lv_at hl 2 rfl) ?_
      refine lv_bipush (v := 38) hx hb d_M_step_360 (by decide) ?_
      refine lv_icmp_eq hx hb d_M_step_362 (tgt := 377) rfl (fun hc => ?_) (fun hc => ?_)
      · have hf := (if_pos hc).symm.trans hf
        exact K377 x1 σ H locs ls hf hw (lv_sub hl [0, 1] rfl)
      · have hf := (if_neg hc).symm.trans hf
        exact K365 x1 x2 σ H locs ls hf hw (lv_sub hl [0, 1, 2] rfl)
  have K322 : ∀ (x1 : Int32) (t0 : Int32) (σ : zs_S) (H : Heap) (locs : List Loc) (ls : Array Slot), zf_M_step_322 F x1 t0 σ = some q → zs_I 1 D cA ad A s σ H locs → lv_has ls 5 [(0, .ref (ad 1)), (1, .int x1)] → W p l e RR s m args below meth c H locs 0 0 QQ (F0 m 322 ls [.int t0]) := by
    intro  x1 t0 σ H locs ls hf hw hl
    unfold zf_M_step_322 at hf
    refine lv_istore_n hx hb d_M_step_322 rfl hl (by decide) rfl (fun ls hl => ?_)
    have hl : lv_has ls 5 [(2, .int t0), (0, .ref (ad 1)), (1, .int x1)] := hl
    refine lv_iload_n hx hb d_M_step_323 rfl (lv_at hl 0 rfl) ?_
    refine lv_bipush (v := 61) hx hb d_M_step_324 (by decide) ?_
    refine lv_icmp_ne hx hb d_M_step_326 (tgt := 353) rfl (fun hc => ?_) (fun hc => ?_)
    · have hf := (if_neg hc).symm.trans hf
      exact K353 x1 t0 σ H locs ls hf hw (lv_sub hl [1, 2, 0] rfl)
    · have hf := (if_pos hc).symm.trans hf
      refine lv_iload_n hx hb d_M_step_329 rfl (lv_at hl 2 rfl) ?_
      refine lv_bipush (v := 61) hx hb d_M_step_330 (by decide) ?_
      refine lv_icmp_eq hx hb d_M_step_332 (tgt := 377) rfl (fun hc => ?_) (fun hc => ?_)
      · have hf := (if_pos hc).symm.trans hf
        exact K377 x1 σ H locs ls hf hw (lv_sub hl [1, 2] rfl)
      · have hf := (if_neg hc).symm.trans hf
        refine lv_iload_n hx hb d_M_step_335 rfl (lv_at hl 2 rfl) ?_
        refine lv_bipush (v := 33) hx hb d_M_step_336 (by decide) ?_
        refine lv_icmp_eq hx hb d_M_step_338 (tgt := 377) rfl (fun hc => ?_) (fun hc => ?_)
        · have hf := (if_pos hc).symm.trans hf
          exact K377 x1 σ H locs ls hf hw (lv_sub hl [1, 2] rfl)
        · have hf := (if_neg hc).symm.trans hf
          refine lv_iload_n hx hb d_M_step_341 rfl (lv_at hl 2 rfl) ?_
          refine lv_bipush (v := 60) hx hb d_M_step_342 (by decide) ?_
          refine lv_icmp_eq hx hb d_M_step_344 (tgt := 377) rfl (fun hc => ?_) (fun hc => ?_)
          · have hf := (if_pos hc).symm.trans hf
            exact K377 x1 σ H locs ls hf hw (lv_sub hl [1, 2] rfl)
          · have hf := (if_neg hc).symm.trans hf
            refine lv_iload_n hx hb d_M_step_347 rfl (lv_at hl 2 rfl) ?_
            refine lv_bipush (v := 62) hx hb d_M_step_348 (by decide) ?_
            refine lv_icmp_eq hx hb d_M_step_350 (tgt := 377) rfl (fun hc => ?_) (fun hc => ?_)
            · have hf := (if_pos hc).symm.trans hf
              exact K377 x1 σ H locs ls hf hw (lv_sub hl [1, 2] rfl)
            · have hf := (if_neg hc).symm.trans hf
              exact K353 x1 t0 σ H locs ls hf hw (lv_sub hl [1, 2, 0] rfl)
  have K278 : ∀ (t0 : Int32) (σ : zs_S) (H : Heap) (locs : List Loc) (ls : Array Slot), zf_M_step_278 F t0 σ = some q → zs_I 1 D cA ad A s σ H locs → lv_has ls 5 [(0, .ref (ad 1))] → W p l e RR s m args below meth c H locs 0 0 QQ (F0 m 278 ls [.int t0, .ref (ad 1)]) := by
    intro  t0 σ H locs ls hf hw hl
    unfold zf_M_step_278 at hf
    obtain ⟨σ36, e_σ36, hf⟩ := zq_ss hf
    refine zr_puti (ci := 8) G hw 1 7 zi_8 t_zd8 t_zd8_ok n_zd8 rfl rfl rfl (by decide) rfl zm_556 (fun _ h => h) rfl (x := t0) (t_zd8_ok 7 (by decide)) rfl rfl d_M_step_278 (fun H locs hw => ?_)
    rw [← e_σ36] at hw
    refine lv_goto hx hb d_M_step_281 (tgt := 498) rfl ?_
    exact K498 σ36 H locs ls hf hw (lv_sub hl [0] rfl)
  have K263 : ∀ (σ : zs_S) (H : Heap) (locs : List Loc) (ls : Array Slot), zf_M_step_263 F σ = some q → zs_I 1 D cA ad A s σ H locs → lv_has ls 5 [(0, .ref (ad 1))] → W p l e RR s m args below meth c H locs 0 0 QQ (F0 m 263 ls []) := by
    intro   σ H locs ls hf hw hl
    unfold zf_M_step_263 at hf
    refine lv_aload_n hx hb d_M_step_263 rfl (lv_at hl 0 rfl) ?_
    refine lv_aload_n hx hb d_M_step_264 rfl (lv_at hl 0 rfl) ?_
    refine zr_get (ci := 8) G hw 1 10 zi_8 rfl rfl rfl (by decide) zm_555 (fun _ h => h) (v := .int (zs_i σ 1 10)) rfl d_M_step_265 ?_
    refine lv_bipush (v := 127) hx hb d_M_step_268 (by decide) ?_
    refine lv_icmp_gt hx hb d_M_step_270 (tgt := 277) rfl (fun hc => ?_) (fun hc => ?_)
    · have hf := (if_pos hc).symm.trans hf
      refine lv_iconst (v := 4) hx hb d_M_step_277 (by decide) ?_
      exact K278 4 σ H locs ls hf hw (lv_sub hl [0] rfl)
    · have hf := (if_neg hc).symm.trans hf
      refine lv_iconst (v := 2) hx hb d_M_step_273 (by decide) ?_
      refine lv_goto hx hb d_M_step_274 (tgt := 278) rfl ?_
      exact K278 2 σ H locs ls hf hw (lv_sub hl [0] rfl)
  have K194 : ∀ (n : Nat) (σ : zs_S) (H : Heap) (locs : List Loc) (ls : Array Slot), zf_M_step_194 F n σ = some q → zs_I 1 D cA ad A s σ H locs → lv_has ls 5 [(0, .ref (ad 1))] → W p l e RR s m args below meth c H locs 0 0 QQ (F0 m 194 ls []) := by
    intro  n
    induction n with
    | zero => intro  σ H locs ls hf hw hl; exact nomatch (show (none : Option (zs_S)) = some q from hf)
    | succ n ih =>
      intro  σ H locs ls hf hw hl
      rw [zf_M_step_194] at hf
      refine lv_aload_n hx hb d_M_step_194 rfl (lv_at hl 0 rfl) ?_
      refine zr_get (ci := 8) G hw 1 6 zi_8 rfl rfl rfl (by decide) zm_545 (fun _ h => h) (v := .int (zs_i σ 1 6)) rfl d_M_step_195 ?_
      refine lv_aload_n hx hb d_M_step_198 rfl (lv_at hl 0 rfl) ?_
      refine zr_get (ci := 8) G hw 1 5 zi_8 rfl rfl rfl (by decide) zm_546 (fun _ h => h) (v := .int (zs_i σ 1 5)) rfl d_M_step_199 ?_
      refine lv_icmp_ge hx hb d_M_step_202 (tgt := 263) rfl (fun hc => ?_) (fun hc => ?_)
      · have hf := (if_pos hc).symm.trans hf
        exact K263 σ H locs ls hf hw (lv_sub hl [0] rfl)
      · have hf := (if_neg hc).symm.trans hf
        refine lv_aload_n hx hb d_M_step_205 rfl (lv_at hl 0 rfl) ?_
        refine zr_get (ci := 8) G hw 1 0 zi_8 rfl rfl rfl (by decide) zm_547 (fun _ h => h) (v := .ref (ad 2)) rfl d_M_step_206 ?_
        refine lv_aload_n hx hb d_M_step_209 rfl (lv_at hl 0 rfl) ?_
        refine zr_get (ci := 8) G hw 1 6 zi_8 rfl rfl rfl (by decide) zm_545 (fun _ h => h) (v := .int (zs_i σ 1 6)) rfl d_M_step_210 ?_
        obtain ⟨hi26, hf⟩ := zq_gs hf
        refine zr_bald G hw 2 rfl rfl hi26 d_M_step_213 ?_
        obtain ⟨r28, σ27, hc29, hf⟩ := zq_cs hf
        refine zr_ci hw (zr_runS (rest := []) G hw [.int (zs_i σ 2 (zs_i σ 1 6).toNatClampNeg)] (zc_M_isDigit hJ hc29) (va_cwS 1 hts (zs_gS zm_553 zm_554 zm_551 zm_552) rfl rfl rfl (by decide +kernel) ⟨Nat.le_trans (by decide) hR1, Nat.le_trans (by decide) hR2⟩) rfl hl.1 (Nat.le_of_ble_eq_true rfl) d_M_step_214 ⟨Nat.zero_le _, Nat.zero_le _⟩) (fun H locs hw => ?_)
        refine lv_if_eq hx hb d_M_step_217 (tgt := 263) rfl (fun hc => ?_) (fun hc => ?_)
        · have hf := (if_pos hc).symm.trans hf
          exact K263 σ27 H locs ls hf hw (lv_sub hl [0] rfl)
        · have hf := (if_neg hc).symm.trans hf
          refine lv_aload_n hx hb d_M_step_220 rfl (lv_at hl 0 rfl) ?_
          refine lv_sipush (v := 1000) hx hb d_M_step_221 (by decide) ?_
          refine lv_bipush (v := 10) hx hb d_M_step_224 (by decide) ?_
          refine lv_aload_n hx hb d_M_step_226 rfl (lv_at hl 0 rfl) ?_
          refine zr_get (ci := 8) G hw 1 10 zi_8 rfl rfl rfl (by decide) zm_555 (fun _ h => h) (v := .int (zs_i σ27 1 10)) rfl d_M_step_227 ?_
          refine lv_imul hx hb d_M_step_230 ?_
          refine lv_aload_n hx hb d_M_step_231 rfl (lv_at hl 0 rfl) ?_
          refine zr_get (ci := 8) G hw 1 0 zi_8 rfl rfl rfl (by decide) zm_547 (fun _ h => h) (v := .ref (ad 2)) rfl d_M_step_232 ?_
          refine lv_aload_n hx hb d_M_step_235 rfl (lv_at hl 0 rfl) ?_
          refine zr_get (ci := 8) G hw 1 6 zi_8 rfl rfl rfl (by decide) zm_545 (fun _ h => h) (v := .int (zs_i σ27 1 6)) rfl d_M_step_236 ?_
          obtain ⟨hi30, hf⟩ := zq_gs hf
          refine zr_bald G hw 2 rfl rfl hi30 d_M_step_239 ?_
          refine lv_iadd hx hb d_M_step_240 ?_
          refine lv_bipush (v := 48) hx hb d_M_step_241 (by decide) ?_
          refine lv_isub hx hb d_M_step_243 ?_
          refine va_mmin hx hb (G.1.2.2.1.trans hl.1.symm) hown (hts _ zm_557) (hts _ zm_79) (hts _ zm_80) (hts _ zm_77) (Nat.le_trans (by decide) hR1) (Nat.le_trans (Nat.le_of_ble_eq_true rfl) hR2) (Nat.zero_le _) (Nat.zero_le _) d_M_step_244 ?_
          obtain ⟨σ31, e_σ31, hf⟩ := zq_ss hf
          refine zr_puti (ci := 8) G hw 1 10 zi_8 t_zd8 t_zd8_ok n_zd8 rfl rfl rfl (by decide) rfl zm_555 (fun _ h => h) rfl (x := (if ((10 * (zs_i σ27 1 10)) + (zs_i σ27 2 (zs_i σ27 1 6).toNatClampNeg)) - 48 < 1000 then ((10 * (zs_i σ27 1 10)) + (zs_i σ27 2 (zs_i σ27 1 6).toNatClampNeg)) - 48 else 1000)) (t_zd8_ok 10 (by decide)) rfl rfl d_M_step_247 (fun H locs hw => ?_)
          rw [← e_σ31] at hw
          refine lv_aload_n hx hb d_M_step_250 rfl (lv_at hl 0 rfl) ?_
          refine lv_dup hx hb d_M_step_251 rfl ?_
          refine zr_get (ci := 8) G hw 1 6 zi_8 rfl rfl rfl (by decide) zm_545 (fun _ h => h) (v := .int (zs_i σ31 1 6)) rfl d_M_step_252 ?_
          refine lv_iconst (v := 1) hx hb d_M_step_255 (by decide) ?_
          refine lv_iadd hx hb d_M_step_256 ?_
          obtain ⟨σ32, e_σ32, hf⟩ := zq_ss hf
          refine zr_puti (ci := 8) G hw 1 6 zi_8 t_zd8 t_zd8_ok n_zd8 rfl rfl rfl (by decide) rfl zm_545 (fun _ h => h) rfl (x := ((zs_i σ31 1 6) + 1)) (t_zd8_ok 6 (by decide)) rfl rfl d_M_step_257 (fun H locs hw => ?_)
          rw [← e_σ32] at hw
          refine lv_goto hx hb d_M_step_260 (tgt := 194) rfl ?_
          exact ih σ32 H locs ls hf hw (lv_sub hl [0] rfl)
  have K168 : ∀ (t0 : Int32) (σ : zs_S) (H : Heap) (locs : List Loc) (ls : Array Slot), zf_M_step_168 F t0 σ = some q → zs_I 1 D cA ad A s σ H locs → lv_has ls 5 [(0, .ref (ad 1))] → W p l e RR s m args below meth c H locs 0 0 QQ (F0 m 168 ls [.int t0, .ref (ad 1)]) := by
    intro  t0 σ H locs ls hf hw hl
    unfold zf_M_step_168 at hf
    obtain ⟨σ35, e_σ35, hf⟩ := zq_ss hf
    refine zr_puti (ci := 8) G hw 1 7 zi_8 t_zd8 t_zd8_ok n_zd8 rfl rfl rfl (by decide) rfl zm_556 (fun _ h => h) rfl (x := t0) (t_zd8_ok 7 (by decide)) rfl rfl d_M_step_168 (fun H locs hw => ?_)
    rw [← e_σ35] at hw
    refine lv_goto hx hb d_M_step_171 (tgt := 498) rfl ?_
    exact K498 σ35 H locs ls hf hw (lv_sub hl [0] rfl)
  have K148 : ∀ (σ : zs_S) (H : Heap) (locs : List Loc) (ls : Array Slot), zf_M_step_148 F σ = some q → zs_I 1 D cA ad A s σ H locs → lv_has ls 5 [(0, .ref (ad 1))] → W p l e RR s m args below meth c H locs 0 0 QQ (F0 m 148 ls []) := by
    intro   σ H locs ls hf hw hl
    unfold zf_M_step_148 at hf
    refine lv_aload_n hx hb d_M_step_148 rfl (lv_at hl 0 rfl) ?_
    refine lv_aload_n hx hb d_M_step_149 rfl (lv_at hl 0 rfl) ?_
    refine zr_get (ci := 8) G hw 1 6 zi_8 rfl rfl rfl (by decide) zm_545 (fun _ h => h) (v := .int (zs_i σ 1 6)) rfl d_M_step_150 ?_
    refine lv_aload_n hx hb d_M_step_153 rfl (lv_at hl 0 rfl) ?_
    refine zr_get (ci := 8) G hw 1 8 zi_8 rfl rfl rfl (by decide) zm_544 (fun _ h => h) (v := .int (zs_i σ 1 8)) rfl d_M_step_154 ?_
    refine lv_isub hx hb d_M_step_157 ?_
    refine lv_bipush (v := 8) hx hb d_M_step_158 (by decide) ?_
    refine lv_icmp_gt hx hb d_M_step_160 (tgt := 167) rfl (fun hc => ?_) (fun hc => ?_)
    · have hf := (if_pos hc).symm.trans hf
      refine lv_iconst (v := 4) hx hb d_M_step_167 (by decide) ?_
      exact K168 4 σ H locs ls hf hw (lv_sub hl [0] rfl)
    · have hf := (if_neg hc).symm.trans hf
      refine lv_iconst (v := 1) hx hb d_M_step_163 (by decide) ?_
      refine lv_goto hx hb d_M_step_164 (tgt := 168) rfl ?_
      exact K168 1 σ H locs ls hf hw (lv_sub hl [0] rfl)
  have K135 : ∀ (k94 : zs_S → Option (zs_S)) (hk94 : ∀ (σ : zs_S) (H : Heap) (locs : List Loc) (ls : Array Slot), k94 σ = some q → zs_I 1 D cA ad A s σ H locs → lv_has ls 5 [(0, .ref (ad 1))] → W p l e RR s m args below meth c H locs 0 0 QQ (F0 m 94 ls [])) (σ : zs_S) (H : Heap) (locs : List Loc) (ls : Array Slot), zf_M_step_135 F k94 σ = some q → zs_I 1 D cA ad A s σ H locs → lv_has ls 5 [(0, .ref (ad 1))] → W p l e RR s m args below meth c H locs 0 0 QQ (F0 m 135 ls []) := by
    intro k94 hk94  σ H locs ls hf hw hl
    unfold zf_M_step_135 at hf
    refine lv_aload_n hx hb d_M_step_135 rfl (lv_at hl 0 rfl) ?_
    refine lv_dup hx hb d_M_step_136 rfl ?_
    refine zr_get (ci := 8) G hw 1 6 zi_8 rfl rfl rfl (by decide) zm_545 (fun _ h => h) (v := .int (zs_i σ 1 6)) rfl d_M_step_137 ?_
    refine lv_iconst (v := 1) hx hb d_M_step_140 (by decide) ?_
    refine lv_iadd hx hb d_M_step_141 ?_
    obtain ⟨σ34, e_σ34, hf⟩ := zq_ss hf
    refine zr_puti (ci := 8) G hw 1 6 zi_8 t_zd8 t_zd8_ok n_zd8 rfl rfl rfl (by decide) rfl zm_545 (fun _ h => h) rfl (x := ((zs_i σ 1 6) + 1)) (t_zd8_ok 6 (by decide)) rfl rfl d_M_step_142 (fun H locs hw => ?_)
    rw [← e_σ34] at hw
    refine lv_goto hx hb d_M_step_145 (tgt := 94) rfl ?_
    exact hk94 σ34 H locs ls hf hw (lv_sub hl [0] rfl)
  have K94 : ∀ (n : Nat) (σ : zs_S) (H : Heap) (locs : List Loc) (ls : Array Slot), zf_M_step_94 F n σ = some q → zs_I 1 D cA ad A s σ H locs → lv_has ls 5 [(0, .ref (ad 1))] → W p l e RR s m args below meth c H locs 0 0 QQ (F0 m 94 ls []) := by
    intro  n
    induction n with
    | zero => intro  σ H locs ls hf hw hl; exact nomatch (show (none : Option (zs_S)) = some q from hf)
    | succ n ih =>
      intro  σ H locs ls hf hw hl
      rw [zf_M_step_94] at hf
      refine lv_aload_n hx hb d_M_step_94 rfl (lv_at hl 0 rfl) ?_
      refine zr_get (ci := 8) G hw 1 6 zi_8 rfl rfl rfl (by decide) zm_545 (fun _ h => h) (v := .int (zs_i σ 1 6)) rfl d_M_step_95 ?_
      refine lv_aload_n hx hb d_M_step_98 rfl (lv_at hl 0 rfl) ?_
      refine zr_get (ci := 8) G hw 1 5 zi_8 rfl rfl rfl (by decide) zm_546 (fun _ h => h) (v := .int (zs_i σ 1 5)) rfl d_M_step_99 ?_
      refine lv_icmp_ge hx hb d_M_step_102 (tgt := 148) rfl (fun hc => ?_) (fun hc => ?_)
      · have hf := (if_pos hc).symm.trans hf
        exact K148 σ H locs ls hf hw (lv_sub hl [0] rfl)
      · have hf := (if_neg hc).symm.trans hf
        refine lv_aload_n hx hb d_M_step_105 rfl (lv_at hl 0 rfl) ?_
        refine zr_get (ci := 8) G hw 1 0 zi_8 rfl rfl rfl (by decide) zm_547 (fun _ h => h) (v := .ref (ad 2)) rfl d_M_step_106 ?_
        refine lv_aload_n hx hb d_M_step_109 rfl (lv_at hl 0 rfl) ?_
        refine zr_get (ci := 8) G hw 1 6 zi_8 rfl rfl rfl (by decide) zm_545 (fun _ h => h) (v := .int (zs_i σ 1 6)) rfl d_M_step_110 ?_
        obtain ⟨hi18, hf⟩ := zq_gs hf
        refine zr_bald G hw 2 rfl rfl hi18 d_M_step_113 ?_
        obtain ⟨r20, σ19, hc21, hf⟩ := zq_cs hf
        refine zr_ci hw (zr_runS (rest := []) G hw [.int (zs_i σ 2 (zs_i σ 1 6).toNatClampNeg)] (zc_M_isSmall hJ hc21) (va_cwS 1 hts (zs_gS zm_549 zm_550 zm_551 zm_548) rfl rfl rfl (by decide +kernel) ⟨Nat.le_trans (by decide) hR1, Nat.le_trans (by decide) hR2⟩) rfl hl.1 (Nat.le_of_ble_eq_true rfl) d_M_step_114 ⟨Nat.zero_le _, Nat.zero_le _⟩) (fun H locs hw => ?_)
        refine lv_if_ne hx hb d_M_step_117 (tgt := 135) rfl (fun hc => ?_) (fun hc => ?_)
        · have hf := (if_neg hc).symm.trans hf
          exact K135 (zf_M_step_94 F n) ih σ19 H locs ls hf hw (lv_sub hl [0] rfl)
        · have hf := (if_pos hc).symm.trans hf
          refine lv_aload_n hx hb d_M_step_120 rfl (lv_at hl 0 rfl) ?_
          refine zr_get (ci := 8) G hw 1 0 zi_8 rfl rfl rfl (by decide) zm_547 (fun _ h => h) (v := .ref (ad 2)) rfl d_M_step_121 ?_
          refine lv_aload_n hx hb d_M_step_124 rfl (lv_at hl 0 rfl) ?_
          refine zr_get (ci := 8) G hw 1 6 zi_8 rfl rfl rfl (by decide) zm_545 (fun _ h => h) (v := .int (zs_i σ19 1 6)) rfl d_M_step_125 ?_
          obtain ⟨hi22, hf⟩ := zq_gs hf
          refine zr_bald G hw 2 rfl rfl hi22 d_M_step_128 ?_
          obtain ⟨r24, σ23, hc25, hf⟩ := zq_cs hf
          refine zr_ci hw (zr_runS (rest := []) G hw [.int (zs_i σ19 2 (zs_i σ19 1 6).toNatClampNeg)] (zc_M_isDigit hJ hc25) (va_cwS 1 hts (zs_gS zm_553 zm_554 zm_551 zm_552) rfl rfl rfl (by decide +kernel) ⟨Nat.le_trans (by decide) hR1, Nat.le_trans (by decide) hR2⟩) rfl hl.1 (Nat.le_of_ble_eq_true rfl) d_M_step_129 ⟨Nat.zero_le _, Nat.zero_le _⟩) (fun H locs hw => ?_)
          refine lv_if_eq hx hb d_M_step_132 (tgt := 148) rfl (fun hc => ?_) (fun hc => ?_)
          · have hf := (if_pos hc).symm.trans hf
            exact K148 σ23 H locs ls hf hw (lv_sub hl [0] rfl)
          · have hf := (if_neg hc).symm.trans hf
            exact K135 (zf_M_step_94 F n) ih σ23 H locs ls hf hw (lv_sub hl [0] rfl)
  have K52 : ∀ (σ : zs_S) (H : Heap) (locs : List Loc) (ls : Array Slot), zf_M_step_52 F σ = some q → zs_I 1 D cA ad A s σ H locs → lv_has ls 5 [(0, .ref (ad 1))] → W p l e RR s m args below meth c H locs 0 0 QQ (F0 m 52 ls []) := by
    intro   σ H locs ls hf hw hl
    unfold zf_M_step_52 at hf
    refine lv_aload_n hx hb d_M_step_52 rfl (lv_at hl 0 rfl) ?_
    refine lv_aload_n hx hb d_M_step_53 rfl (lv_at hl 0 rfl) ?_
    refine zr_get (ci := 8) G hw 1 6 zi_8 rfl rfl rfl (by decide) zm_545 (fun _ h => h) (v := .int (zs_i σ 1 6)) rfl d_M_step_54 ?_
    obtain ⟨σ4, e_σ4, hf⟩ := zq_ss hf
    refine zr_puti (ci := 8) G hw 1 8 zi_8 t_zd8 t_zd8_ok n_zd8 rfl rfl rfl (by decide) rfl zm_544 (fun _ h => h) rfl (x := (zs_i σ 1 6)) (t_zd8_ok 8 (by decide)) rfl rfl d_M_step_57 (fun H locs hw => ?_)
    rw [← e_σ4] at hw
    refine lv_aload_n hx hb d_M_step_60 rfl (lv_at hl 0 rfl) ?_
    refine zr_get (ci := 8) G hw 1 8 zi_8 rfl rfl rfl (by decide) zm_544 (fun _ h => h) (v := .int (zs_i σ4 1 8)) rfl d_M_step_61 ?_
    refine lv_aload_n hx hb d_M_step_64 rfl (lv_at hl 0 rfl) ?_
    refine zr_get (ci := 8) G hw 1 5 zi_8 rfl rfl rfl (by decide) zm_546 (fun _ h => h) (v := .int (zs_i σ4 1 5)) rfl d_M_step_65 ?_
    refine lv_icmp_ne hx hb d_M_step_68 (tgt := 79) rfl (fun hc => ?_) (fun hc => ?_)
    · have hf := (if_neg hc).symm.trans hf
      refine lv_aload_n hx hb d_M_step_79 rfl (lv_at hl 0 rfl) ?_
      refine zr_get (ci := 8) G hw 1 0 zi_8 rfl rfl rfl (by decide) zm_547 (fun _ h => h) (v := .ref (ad 2)) rfl d_M_step_80 ?_
      refine lv_aload_n hx hb d_M_step_83 rfl (lv_at hl 0 rfl) ?_
      refine zr_get (ci := 8) G hw 1 8 zi_8 rfl rfl rfl (by decide) zm_544 (fun _ h => h) (v := .int (zs_i σ4 1 8)) rfl d_M_step_84 ?_
      obtain ⟨hi5, hf⟩ := zq_gs hf
      refine zr_bald G hw 2 rfl rfl hi5 d_M_step_87 ?_
      obtain ⟨r7, σ6, hc8, hf⟩ := zq_cs hf
      refine zr_ci hw (zr_runS (rest := []) G hw [.int (zs_i σ4 2 (zs_i σ4 1 8).toNatClampNeg)] (zc_M_isSmall hJ hc8) (va_cwS 1 hts (zs_gS zm_549 zm_550 zm_551 zm_548) rfl rfl rfl (by decide +kernel) ⟨Nat.le_trans (by decide) hR1, Nat.le_trans (by decide) hR2⟩) rfl hl.1 (Nat.le_of_ble_eq_true rfl) d_M_step_88 ⟨Nat.zero_le _, Nat.zero_le _⟩) (fun H locs hw => ?_)
      refine lv_if_eq hx hb d_M_step_91 (tgt := 174) rfl (fun hc => ?_) (fun hc => ?_)
      · have hf := (if_pos hc).symm.trans hf
        refine lv_aload_n hx hb d_M_step_174 rfl (lv_at hl 0 rfl) ?_
        refine zr_get (ci := 8) G hw 1 0 zi_8 rfl rfl rfl (by decide) zm_547 (fun _ h => h) (v := .ref (ad 2)) rfl d_M_step_175 ?_
        refine lv_aload_n hx hb d_M_step_178 rfl (lv_at hl 0 rfl) ?_
        refine zr_get (ci := 8) G hw 1 8 zi_8 rfl rfl rfl (by decide) zm_544 (fun _ h => h) (v := .int (zs_i σ6 1 8)) rfl d_M_step_179 ?_
        obtain ⟨hi9, hf⟩ := zq_gs hf
        refine zr_bald G hw 2 rfl rfl hi9 d_M_step_182 ?_
        obtain ⟨r11, σ10, hc12, hf⟩ := zq_cs hf
        refine zr_ci hw (zr_runS (rest := []) G hw [.int (zs_i σ6 2 (zs_i σ6 1 8).toNatClampNeg)] (zc_M_isDigit hJ hc12) (va_cwS 1 hts (zs_gS zm_553 zm_554 zm_551 zm_552) rfl rfl rfl (by decide +kernel) ⟨Nat.le_trans (by decide) hR1, Nat.le_trans (by decide) hR2⟩) rfl hl.1 (Nat.le_of_ble_eq_true rfl) d_M_step_183 ⟨Nat.zero_le _, Nat.zero_le _⟩) (fun H locs hw => ?_)
        refine lv_if_eq hx hb d_M_step_186 (tgt := 284) rfl (fun hc => ?_) (fun hc => ?_)
        · have hf := (if_pos hc).symm.trans hf
          refine lv_aload_n hx hb d_M_step_284 rfl (lv_at hl 0 rfl) ?_
          refine zr_get (ci := 8) G hw 1 0 zi_8 rfl rfl rfl (by decide) zm_547 (fun _ h => h) (v := .ref (ad 2)) rfl d_M_step_285 ?_
          refine lv_aload_n hx hb d_M_step_288 rfl (lv_at hl 0 rfl) ?_
          refine zr_get (ci := 8) G hw 1 6 zi_8 rfl rfl rfl (by decide) zm_545 (fun _ h => h) (v := .int (zs_i σ10 1 6)) rfl d_M_step_289 ?_
          obtain ⟨hi13, hf⟩ := zq_gs hf
          refine zr_bald G hw 2 rfl rfl hi13 d_M_step_292 ?_
          refine lv_topi (fun v14 e_v14 => ?_)
          have hf := zq_vs e_v14 hf
          refine lv_istore_n hx hb d_M_step_293 rfl hl (by decide) rfl (fun ls hl => ?_)
          have hl : lv_has ls 5 [(1, .int v14), (0, .ref (ad 1))] := hl
          refine lv_aload_n hx hb d_M_step_294 rfl (lv_at hl 1 rfl) ?_
          refine zr_get (ci := 8) G hw 1 6 zi_8 rfl rfl rfl (by decide) zm_545 (fun _ h => h) (v := .int (zs_i σ10 1 6)) rfl d_M_step_295 ?_
          refine lv_iconst (v := 1) hx hb d_M_step_298 (by decide) ?_
          refine lv_iadd hx hb d_M_step_299 ?_
          refine lv_aload_n hx hb d_M_step_300 rfl (lv_at hl 1 rfl) ?_
          refine zr_get (ci := 8) G hw 1 5 zi_8 rfl rfl rfl (by decide) zm_546 (fun _ h => h) (v := .int (zs_i σ10 1 5)) rfl d_M_step_301 ?_
          refine lv_icmp_ge hx hb d_M_step_304 (tgt := 321) rfl (fun hc => ?_) (fun hc => ?_)
          · have hf := (if_pos hc).symm.trans hf
            refine lv_iconst (v := 0) hx hb d_M_step_321 (by decide) ?_
            exact K322 v14 0 σ10 H locs ls hf hw (lv_sub hl [1, 0] rfl)
          · have hf := (if_neg hc).symm.trans hf
            refine lv_aload_n hx hb d_M_step_307 rfl (lv_at hl 1 rfl) ?_
            refine zr_get (ci := 8) G hw 1 0 zi_8 rfl rfl rfl (by decide) zm_547 (fun _ h => h) (v := .ref (ad 2)) rfl d_M_step_308 ?_
            refine lv_aload_n hx hb d_M_step_311 rfl (lv_at hl 1 rfl) ?_
            refine zr_get (ci := 8) G hw 1 6 zi_8 rfl rfl rfl (by decide) zm_545 (fun _ h => h) (v := .int (zs_i σ10 1 6)) rfl d_M_step_312 ?_
            refine lv_iconst (v := 1) hx hb d_M_step_315 (by decide) ?_
            refine lv_iadd hx hb d_M_step_316 ?_
            obtain ⟨hi15, hf⟩ := zq_gs hf
            refine zr_bald G hw 2 rfl rfl hi15 d_M_step_317 ?_
            refine lv_goto hx hb d_M_step_318 (tgt := 322) rfl ?_
            exact K322 v14 (zs_i σ10 2 ((zs_i σ10 1 6) + 1).toNatClampNeg) σ10 H locs ls hf hw (lv_sub hl [1, 0] rfl)
        · have hf := (if_neg hc).symm.trans hf
          refine lv_aload_n hx hb d_M_step_189 rfl (lv_at hl 0 rfl) ?_
          refine lv_iconst (v := 0) hx hb d_M_step_190 (by decide) ?_
          obtain ⟨σ16, e_σ16, hf⟩ := zq_ss hf
          refine zr_puti (ci := 8) G hw 1 10 zi_8 t_zd8 t_zd8_ok n_zd8 rfl rfl rfl (by decide) rfl zm_555 (fun _ h => h) rfl (x := 0) (t_zd8_ok 10 (by decide)) rfl rfl d_M_step_191 (fun H locs hw => ?_)
          rw [← e_σ16] at hw
          exact K194 F σ16 H locs ls hf hw (lv_sub hl [0] rfl)
      · have hf := (if_neg hc).symm.trans hf
        exact K94 F σ6 H locs ls hf hw (lv_sub hl [0] rfl)
    · have hf := (if_pos hc).symm.trans hf
      refine lv_aload_n hx hb d_M_step_71 rfl (lv_at hl 0 rfl) ?_
      refine lv_iconst (v := 0) hx hb d_M_step_72 (by decide) ?_
      obtain ⟨σ17, e_σ17, hf⟩ := zq_ss hf
      refine zr_puti (ci := 8) G hw 1 7 zi_8 t_zd8 t_zd8_ok n_zd8 rfl rfl rfl (by decide) rfl zm_556 (fun _ h => h) rfl (x := 0) (t_zd8_ok 7 (by decide)) rfl rfl d_M_step_73 (fun H locs hw => ?_)
      rw [← e_σ17] at hw
      refine lv_goto hx hb d_M_step_76 (tgt := 498) rfl ?_
      exact K498 σ17 H locs ls hf hw (lv_sub hl [0] rfl)
  have K39 : ∀ (k0 : zs_S → Option (zs_S)) (hk0 : ∀ (σ : zs_S) (H : Heap) (locs : List Loc) (ls : Array Slot), k0 σ = some q → zs_I 1 D cA ad A s σ H locs → lv_has ls 5 [(0, .ref (ad 1))] → W p l e RR s m args below meth c H locs 0 0 QQ (F0 m 0 ls [])) (σ : zs_S) (H : Heap) (locs : List Loc) (ls : Array Slot), zf_M_step_39 F k0 σ = some q → zs_I 1 D cA ad A s σ H locs → lv_has ls 5 [(0, .ref (ad 1))] → W p l e RR s m args below meth c H locs 0 0 QQ (F0 m 39 ls []) := by
    intro k0 hk0  σ H locs ls hf hw hl
    unfold zf_M_step_39 at hf
    refine lv_aload_n hx hb d_M_step_39 rfl (lv_at hl 0 rfl) ?_
    refine lv_dup hx hb d_M_step_40 rfl ?_
    refine zr_get (ci := 8) G hw 1 6 zi_8 rfl rfl rfl (by decide) zm_545 (fun _ h => h) (v := .int (zs_i σ 1 6)) rfl d_M_step_41 ?_
    refine lv_iconst (v := 1) hx hb d_M_step_44 (by decide) ?_
    refine lv_iadd hx hb d_M_step_45 ?_
    obtain ⟨σ3, e_σ3, hf⟩ := zq_ss hf
    refine zr_puti (ci := 8) G hw 1 6 zi_8 t_zd8 t_zd8_ok n_zd8 rfl rfl rfl (by decide) rfl zm_545 (fun _ h => h) rfl (x := ((zs_i σ 1 6) + 1)) (t_zd8_ok 6 (by decide)) rfl rfl d_M_step_46 (fun H locs hw => ?_)
    rw [← e_σ3] at hw
    refine lv_goto hx hb d_M_step_49 (tgt := 0) rfl ?_
    exact hk0 σ3 H locs ls hf hw (lv_sub hl [0] rfl)
  have K0 : ∀ (n : Nat) (σ : zs_S) (H : Heap) (locs : List Loc) (ls : Array Slot), zf_M_step_0 F n σ = some q → zs_I 1 D cA ad A s σ H locs → lv_has ls 5 [(0, .ref (ad 1))] → W p l e RR s m args below meth c H locs 0 0 QQ (F0 m 0 ls []) := by
    intro  n
    induction n with
    | zero => intro  σ H locs ls hf hw hl; exact nomatch (show (none : Option (zs_S)) = some q from hf)
    | succ n ih =>
      intro  σ H locs ls hf hw hl
      rw [zf_M_step_0] at hf
      refine lv_aload_n hx hb d_M_step_0 rfl (lv_at hl 0 rfl) ?_
      refine zr_get (ci := 8) G hw 1 6 zi_8 rfl rfl rfl (by decide) zm_545 (fun _ h => h) (v := .int (zs_i σ 1 6)) rfl d_M_step_1 ?_
      refine lv_aload_n hx hb d_M_step_4 rfl (lv_at hl 0 rfl) ?_
      refine zr_get (ci := 8) G hw 1 5 zi_8 rfl rfl rfl (by decide) zm_546 (fun _ h => h) (v := .int (zs_i σ 1 5)) rfl d_M_step_5 ?_
      refine lv_icmp_ge hx hb d_M_step_8 (tgt := 52) rfl (fun hc => ?_) (fun hc => ?_)
      · have hf := (if_pos hc).symm.trans hf
        exact K52 σ H locs ls hf hw (lv_sub hl [0] rfl)
      · have hf := (if_neg hc).symm.trans hf
        refine lv_aload_n hx hb d_M_step_11 rfl (lv_at hl 0 rfl) ?_
        refine zr_get (ci := 8) G hw 1 0 zi_8 rfl rfl rfl (by decide) zm_547 (fun _ h => h) (v := .ref (ad 2)) rfl d_M_step_12 ?_
        refine lv_aload_n hx hb d_M_step_15 rfl (lv_at hl 0 rfl) ?_
        refine zr_get (ci := 8) G hw 1 6 zi_8 rfl rfl rfl (by decide) zm_545 (fun _ h => h) (v := .int (zs_i σ 1 6)) rfl d_M_step_16 ?_
        obtain ⟨hi1, hf⟩ := zq_gs hf
        refine zr_bald G hw 2 rfl rfl hi1 d_M_step_19 ?_
        refine lv_bipush (v := 32) hx hb d_M_step_20 (by decide) ?_
        refine lv_icmp_eq hx hb d_M_step_22 (tgt := 39) rfl (fun hc => ?_) (fun hc => ?_)
        · have hf := (if_pos hc).symm.trans hf
          exact K39 (zf_M_step_0 F n) ih σ H locs ls hf hw (lv_sub hl [0] rfl)
        · have hf := (if_neg hc).symm.trans hf
          refine lv_aload_n hx hb d_M_step_25 rfl (lv_at hl 0 rfl) ?_
          refine zr_get (ci := 8) G hw 1 0 zi_8 rfl rfl rfl (by decide) zm_547 (fun _ h => h) (v := .ref (ad 2)) rfl d_M_step_26 ?_
          refine lv_aload_n hx hb d_M_step_29 rfl (lv_at hl 0 rfl) ?_
          refine zr_get (ci := 8) G hw 1 6 zi_8 rfl rfl rfl (by decide) zm_545 (fun _ h => h) (v := .int (zs_i σ 1 6)) rfl d_M_step_30 ?_
          obtain ⟨hi2, hf⟩ := zq_gs hf
          refine zr_bald G hw 2 rfl rfl hi2 d_M_step_33 ?_
          refine lv_bipush (v := 10) hx hb d_M_step_34 (by decide) ?_
          refine lv_icmp_ne hx hb d_M_step_36 (tgt := 52) rfl (fun hc => ?_) (fun hc => ?_)
          · have hf := (if_neg hc).symm.trans hf
            exact K52 σ H locs ls hf hw (lv_sub hl [0] rfl)
          · have hf := (if_pos hc).symm.trans hf
            exact K39 (zf_M_step_0 F n) ih σ H locs ls hf hw (lv_sub hl [0] rfl)
  unfold zf_M_step at hf
  exact K0 F σ H locs ls hf hw (lv_sub hl [0] rfl)
/-! ScheduleCheckModel.is -/
def y_M_is : MethodName := ⟨"ScheduleCheckModel","is","(Ljava/lang/String;)Z"⟩
theorem d_M_is_0 : decode prog_13_method_8_code 0 = .ok (.aload_n 0, 1) := by decide +kernel
theorem d_M_is_1 : decode prog_13_method_8_code 1 = .ok (.getfield 75, 3) := by decide +kernel
theorem d_M_is_4 : decode prog_13_method_8_code 4 = .ok (.iconst 1, 1) := by decide +kernel
theorem d_M_is_5 : decode prog_13_method_8_code 5 = .ok (.if_icmp .eq 11, 3) := by decide +kernel
theorem d_M_is_8 : decode prog_13_method_8_code 8 = .ok (.aload_n 0, 1) := by decide +kernel
theorem d_M_is_9 : decode prog_13_method_8_code 9 = .ok (.getfield 75, 3) := by decide +kernel
theorem d_M_is_12 : decode prog_13_method_8_code 12 = .ok (.iconst 3, 1) := by decide +kernel
theorem d_M_is_13 : decode prog_13_method_8_code 13 = .ok (.if_icmp .ne 19, 3) := by decide +kernel
theorem d_M_is_16 : decode prog_13_method_8_code 16 = .ok (.aload_n 0, 1) := by decide +kernel
theorem d_M_is_17 : decode prog_13_method_8_code 17 = .ok (.getfield 94, 3) := by decide +kernel
theorem d_M_is_20 : decode prog_13_method_8_code 20 = .ok (.aload_n 0, 1) := by decide +kernel
theorem d_M_is_21 : decode prog_13_method_8_code 21 = .ok (.getfield 72, 3) := by decide +kernel
theorem d_M_is_24 : decode prog_13_method_8_code 24 = .ok (.isub, 1) := by decide +kernel
theorem d_M_is_25 : decode prog_13_method_8_code 25 = .ok (.aload_n 1, 1) := by decide +kernel
theorem d_M_is_26 : decode prog_13_method_8_code 26 = .ok (.invokevirtual 97, 3) := by decide +kernel
theorem d_M_is_29 : decode prog_13_method_8_code 29 = .ok (.if_icmp .eq 5, 3) := by decide +kernel
theorem d_M_is_32 : decode prog_13_method_8_code 32 = .ok (.iconst 0, 1) := by decide +kernel
theorem d_M_is_33 : decode prog_13_method_8_code 33 = .ok (.ireturn, 1) := by decide +kernel
theorem d_M_is_34 : decode prog_13_method_8_code 34 = .ok (.iconst 0, 1) := by decide +kernel
theorem d_M_is_35 : decode prog_13_method_8_code 35 = .ok (.istore_n 2, 1) := by decide +kernel
theorem d_M_is_36 : decode prog_13_method_8_code 36 = .ok (.iload_n 2, 1) := by decide +kernel
theorem d_M_is_37 : decode prog_13_method_8_code 37 = .ok (.aload_n 1, 1) := by decide +kernel
theorem d_M_is_38 : decode prog_13_method_8_code 38 = .ok (.invokevirtual 97, 3) := by decide +kernel
theorem d_M_is_41 : decode prog_13_method_8_code 41 = .ok (.if_icmp .ge 30, 3) := by decide +kernel
theorem d_M_is_44 : decode prog_13_method_8_code 44 = .ok (.aload_n 0, 1) := by decide +kernel
theorem d_M_is_45 : decode prog_13_method_8_code 45 = .ok (.getfield 9, 3) := by decide +kernel
theorem d_M_is_48 : decode prog_13_method_8_code 48 = .ok (.aload_n 0, 1) := by decide +kernel
theorem d_M_is_49 : decode prog_13_method_8_code 49 = .ok (.getfield 72, 3) := by decide +kernel
theorem d_M_is_52 : decode prog_13_method_8_code 52 = .ok (.iload_n 2, 1) := by decide +kernel
theorem d_M_is_53 : decode prog_13_method_8_code 53 = .ok (.iadd, 1) := by decide +kernel
theorem d_M_is_54 : decode prog_13_method_8_code 54 = .ok (.baload, 1) := by decide +kernel
theorem d_M_is_55 : decode prog_13_method_8_code 55 = .ok (.aload_n 1, 1) := by decide +kernel
theorem d_M_is_56 : decode prog_13_method_8_code 56 = .ok (.iload_n 2, 1) := by decide +kernel
theorem d_M_is_57 : decode prog_13_method_8_code 57 = .ok (.invokevirtual 103, 3) := by decide +kernel
theorem d_M_is_60 : decode prog_13_method_8_code 60 = .ok (.if_icmp .eq 5, 3) := by decide +kernel
theorem d_M_is_63 : decode prog_13_method_8_code 63 = .ok (.iconst 0, 1) := by decide +kernel
theorem d_M_is_64 : decode prog_13_method_8_code 64 = .ok (.ireturn, 1) := by decide +kernel
theorem d_M_is_65 : decode prog_13_method_8_code 65 = .ok (.iinc 2 1, 3) := by decide +kernel
theorem d_M_is_68 : decode prog_13_method_8_code 68 = .ok (.goto (-32), 3) := by decide +kernel
theorem d_M_is_71 : decode prog_13_method_8_code 71 = .ok (.iconst 1, 1) := by decide +kernel
theorem d_M_is_72 : decode prog_13_method_8_code 72 = .ok (.ireturn, 1) := by decide +kernel
def zf_M_is_36 (F : Nat)  : Nat → Nat → Int32 → zs_S → Option (Int32 × zs_S)
  | 0, _, _, _ => none
  | n + 1, x1, x2, σ =>
    zq_g (zq_s x1) <|
    zq_c (zf_String_length1 F x1 σ) fun r6 σ5 =>
    if r6 ≤ x2 then (
      some (1, σ5)
    ) else (
      zq_g (zq_b ((zs_i σ5 1 8) + x2) 1600) <|
      zq_g (zq_s x1) <|
      zq_c (zf_String_charAt1 F x1 x2 σ5) fun r11 σ10 =>
      if (zs_i σ5 2 ((zs_i σ5 1 8) + x2).toNatClampNeg) = r11 then (
        zq_v (x2 + 1) fun v14 =>
        (zf_M_is_36 F n) x1 v14 σ10
      ) else (
        some (0, σ10)
      )
    )
def zf_M_is_32 (F : Nat)   (σ : zs_S) : Option (Int32 × zs_S) :=
  some (0, σ)
def zf_M_is_16 (F : Nat)  (x1 : Nat) (σ : zs_S) : Option (Int32 × zs_S) :=
  zq_g (zq_s x1) <|
  zq_c (zf_String_length1 F x1 σ) fun r2 σ1 =>
  if ((zs_i σ 1 9) - (zs_i σ 1 8)) = r2 then (
    zf_M_is_36 F F x1 0 σ1
  ) else (
    zf_M_is_32 F σ1
  )
def zf_M_is (F : Nat) (x1 : Nat) (σ : zs_S) : Option (Int32 × zs_S) :=
  if (zs_i σ 1 7) = 1 then (
    zf_M_is_16 F x1 σ
  ) else (
    if (zs_i σ 1 7) = 3 then (
      zf_M_is_16 F x1 σ
    ) else (
      zf_M_is_32 F σ
    )
  )
set_option maxHeartbeats 4000000 in
set_option maxRecDepth 100000 in
theorem zc_M_is {l : Launch} {D : va_G} {cA : Nat → ClassId} {ad : Nat → Nat} {A : Nat → Prop} {F : Nat} {x1 : Nat} {σ : zs_S} {q : Int32 × zs_S} (hJ : zs_J ad) (hf : zf_M_is F x1 σ = some q) : Met l y_M_is (.code y_M_is prog_13_method_8_code 3 (some .boolean) :: zd_ww) { frames := 4, cells := 0, slots := 0, locals := 85 } (va_Pc [.ref (ad 1), .ref (ad x1)] (zs_U 1 D cA ad A σ)) (zs_Qi 1 D cA ad A q) 0 0 A := by
  refine Met.ofW (cc := prog_13_method_8_code) (maxL := 3) (ret := (some .boolean)) (by decide) rfl ?_
  intro p e s m args below meth c s₁ B hml hv
  obtain ⟨hargs, hP, hK, hD, hZ⟩ := hv
  have G : zs_G 1 p s m args c prog_13_method_8_code 3 "ScheduleCheckModel" D cA ad A := ⟨⟨B.exec, B.bytes, hml, findClass_of_methodNamed B.named, fun w h => atoms_spec B.pre w (List.mem_cons_of_mem _ h)⟩, hK, hJ, hZ⟩
  have hw : zs_I 1 D cA ad A s σ s.heap [] := ⟨hP, hD, va_S.rf⟩
  have hx := G.1.1
  have hb := G.1.2.1
  have hown := G.1.2.2.2.1
  have hts := G.1.2.2.2.2
  have hr := B.returns
  have hlocks := B.notSynchronized
  have he : entryFrame m args 3 = F0 m 0 ((lg_sl [.ref (ad 1), .ref (ad x1)] ++ List.replicate (3 - (lg_sl [.ref (ad 1), .ref (ad x1)]).length) Slot.unset).toArray) [] := by rw [hargs]; exact lg_entry_eq m _ 3
  have hl := lv_entry [.ref (ad 1), .ref (ad x1)] (n := 3) (Nat.le_of_ble_eq_true rfl)
  rw [he]
  generalize (lg_sl [.ref (ad 1), .ref (ad x1)] ++ List.replicate (3 - (lg_sl [.ref (ad 1), .ref (ad x1)]).length) Slot.unset).toArray = ls at hl
  have hl : lv_has ls 3 [(0, .ref (ad 1)), (1, .ref (ad x1))] := hl
  obtain ⟨RR, hR⟩ : ∃ z, z = (headSpec (.code y_M_is prog_13_method_8_code 3 (some .boolean) :: zd_ww) { frames := 4, cells := 0, slots := 0, locals := 85 }).room := ⟨_, rfl⟩
  rw [← hR]
  obtain ⟨QQ, hQ⟩ : ∃ z, z = MQ below (zs_Qi 1 D cA ad A q) args s 0 0 A := ⟨_, rfl⟩
  rw [← hQ]
  have hR1 : 4 ≤ RR.frames := by rw [hR]; exact Nat.le_refl _
  have hR2 : 85 ≤ RR.locals := by rw [hR]; exact Nat.le_refl _
  generalize s.heap = H at hw ⊢
  generalize ([] : List Loc) = locs at hw ⊢
  have K36 : ∀ (n : Nat) (x1 : Nat) (x2 : Int32) (σ : zs_S) (H : Heap) (locs : List Loc) (ls : Array Slot), zf_M_is_36 F n x1 x2 σ = some q → zs_I 1 D cA ad A s σ H locs → lv_has ls 3 [(0, .ref (ad 1)), (1, .ref (ad x1)), (2, .int x2)] → W p l e RR s m args below meth c H locs 0 0 QQ (F0 m 36 ls []) := by
    intro  n
    induction n with
    | zero => intro x1 x2 σ H locs ls hf hw hl; exact nomatch (show (none : Option (Int32 × zs_S)) = some q from hf)
    | succ n ih =>
      intro x1 x2 σ H locs ls hf hw hl
      rw [zf_M_is_36] at hf
      refine lv_iload_n hx hb d_M_is_36 rfl (lv_at hl 2 rfl) ?_
      refine lv_aload_n hx hb d_M_is_37 rfl (lv_at hl 1 rfl) ?_
      obtain ⟨ht8, hf⟩ := zq_gs hf
      obtain ⟨r6, σ5, hc7, hf⟩ := zq_cs hf
      refine zr_ci hw (zr_runR (rest := [.int x2]) (C := "java/lang/String") (o := x1) G hw [] (zc_String_length1 hJ hc7) (cwV 0 hts (zs_gV zm_560 zm_561 zm_562 zm_531 zm_559) rfl rfl rfl (by decide +kernel) ⟨Nat.le_trans (by decide) hR1, Nat.le_trans (by decide) hR2⟩) (zr_str G hw ht8) rfl hl.1 (Nat.le_of_ble_eq_true rfl) d_M_is_38 ⟨Nat.zero_le _, Nat.zero_le _⟩) (fun H locs hw => ?_)
      refine lv_icmp_ge hx hb d_M_is_41 (tgt := 71) rfl (fun hc => ?_) (fun hc => ?_)
      · have hf := (if_pos hc).symm.trans hf
        refine lv_iconst (v := 1) hx hb d_M_is_71 (by decide) ?_
        exact zr_zret G hw hr hlocks (by decide) hf hQ d_M_is_72
      · have hf := (if_neg hc).symm.trans hf
        refine lv_aload_n hx hb d_M_is_44 rfl (lv_at hl 0 rfl) ?_
        refine zr_get (ci := 8) G hw 1 0 zi_8 rfl rfl rfl (by decide) zm_547 (fun _ h => h) (v := .ref (ad 2)) rfl d_M_is_45 ?_
        refine lv_aload_n hx hb d_M_is_48 rfl (lv_at hl 0 rfl) ?_
        refine zr_get (ci := 8) G hw 1 8 zi_8 rfl rfl rfl (by decide) zm_544 (fun _ h => h) (v := .int (zs_i σ5 1 8)) rfl d_M_is_49 ?_
        refine lv_iload_n hx hb d_M_is_52 rfl (lv_at hl 2 rfl) ?_
        refine lv_iadd hx hb d_M_is_53 ?_
        obtain ⟨hi9, hf⟩ := zq_gs hf
        refine zr_bald G hw 2 rfl rfl hi9 d_M_is_54 ?_
        refine lv_aload_n hx hb d_M_is_55 rfl (lv_at hl 1 rfl) ?_
        refine lv_iload_n hx hb d_M_is_56 rfl (lv_at hl 2 rfl) ?_
        obtain ⟨ht13, hf⟩ := zq_gs hf
        obtain ⟨r11, σ10, hc12, hf⟩ := zq_cs hf
        refine zr_ci hw (zr_runR (rest := [.int (zs_i σ5 2 ((zs_i σ5 1 8) + x2).toNatClampNeg)]) (C := "java/lang/String") (o := x1) G hw [.int x2] (zc_String_charAt1 hJ hc12) (cwV 1 hts (zs_gV zm_564 zm_565 zm_566 zm_531 zm_563) rfl rfl rfl (by decide +kernel) ⟨Nat.le_trans (by decide) hR1, Nat.le_trans (by decide) hR2⟩) (zr_str G hw ht13) rfl hl.1 (Nat.le_of_ble_eq_true rfl) d_M_is_57 ⟨Nat.zero_le _, Nat.zero_le _⟩) (fun H locs hw => ?_)
        refine lv_icmp_eq hx hb d_M_is_60 (tgt := 65) rfl (fun hc => ?_) (fun hc => ?_)
        · have hf := (if_pos hc).symm.trans hf
          obtain ⟨v14, e_v14, hf⟩ := zq_ss hf
          refine lv_iinc (v := v14) hx hb d_M_is_65 hl (k := 2) rfl (zq_inc (k := 1) (by decide) e_v14) (by decide) rfl (fun ls hl => ?_)
          have hl : lv_has ls 3 [(2, .int v14), (0, .ref (ad 1)), (1, .ref (ad x1))] := hl
          refine lv_goto hx hb d_M_is_68 (tgt := 36) rfl ?_
          exact ih x1 v14 σ10 H locs ls hf hw (lv_sub hl [1, 2, 0] rfl)
        · have hf := (if_neg hc).symm.trans hf
          refine lv_iconst (v := 0) hx hb d_M_is_63 (by decide) ?_
          exact zr_zret G hw hr hlocks (by decide) hf hQ d_M_is_64
  have K32 : ∀ (σ : zs_S) (H : Heap) (locs : List Loc) (ls : Array Slot), zf_M_is_32 F σ = some q → zs_I 1 D cA ad A s σ H locs → lv_has ls 3 [] → W p l e RR s m args below meth c H locs 0 0 QQ (F0 m 32 ls []) := by
    intro   σ H locs ls hf hw hl
    unfold zf_M_is_32 at hf
    refine lv_iconst (v := 0) hx hb d_M_is_32 (by decide) ?_
    exact zr_zret G hw hr hlocks (by decide) hf hQ d_M_is_33
  have K16 : ∀ (x1 : Nat) (σ : zs_S) (H : Heap) (locs : List Loc) (ls : Array Slot), zf_M_is_16 F x1 σ = some q → zs_I 1 D cA ad A s σ H locs → lv_has ls 3 [(0, .ref (ad 1)), (1, .ref (ad x1))] → W p l e RR s m args below meth c H locs 0 0 QQ (F0 m 16 ls []) := by
    intro  x1 σ H locs ls hf hw hl
    unfold zf_M_is_16 at hf
    refine lv_aload_n hx hb d_M_is_16 rfl (lv_at hl 0 rfl) ?_
    refine zr_get (ci := 8) G hw 1 9 zi_8 rfl rfl rfl (by decide) zm_558 (fun _ h => h) (v := .int (zs_i σ 1 9)) rfl d_M_is_17 ?_
    refine lv_aload_n hx hb d_M_is_20 rfl (lv_at hl 0 rfl) ?_
    refine zr_get (ci := 8) G hw 1 8 zi_8 rfl rfl rfl (by decide) zm_544 (fun _ h => h) (v := .int (zs_i σ 1 8)) rfl d_M_is_21 ?_
    refine lv_isub hx hb d_M_is_24 ?_
    refine lv_aload_n hx hb d_M_is_25 rfl (lv_at hl 1 rfl) ?_
    obtain ⟨ht4, hf⟩ := zq_gs hf
    obtain ⟨r2, σ1, hc3, hf⟩ := zq_cs hf
    refine zr_ci hw (zr_runR (rest := [.int ((zs_i σ 1 9) - (zs_i σ 1 8))]) (C := "java/lang/String") (o := x1) G hw [] (zc_String_length1 hJ hc3) (cwV 0 hts (zs_gV zm_560 zm_561 zm_562 zm_531 zm_559) rfl rfl rfl (by decide +kernel) ⟨Nat.le_trans (by decide) hR1, Nat.le_trans (by decide) hR2⟩) (zr_str G hw ht4) rfl hl.1 (Nat.le_of_ble_eq_true rfl) d_M_is_26 ⟨Nat.zero_le _, Nat.zero_le _⟩) (fun H locs hw => ?_)
    refine lv_icmp_eq hx hb d_M_is_29 (tgt := 34) rfl (fun hc => ?_) (fun hc => ?_)
    · have hf := (if_pos hc).symm.trans hf
      refine lv_iconst (v := 0) hx hb d_M_is_34 (by decide) ?_
      refine lv_istore_n hx hb d_M_is_35 rfl hl (by decide) rfl (fun ls hl => ?_)
      have hl : lv_has ls 3 [(2, .int 0), (0, .ref (ad 1)), (1, .ref (ad x1))] := hl
      exact K36 F x1 0 σ1 H locs ls hf hw (lv_sub hl [1, 2, 0] rfl)
    · have hf := (if_neg hc).symm.trans hf
      exact K32 σ1 H locs ls hf hw (lv_sub hl [] rfl)
  unfold zf_M_is at hf
  refine lv_aload_n hx hb d_M_is_0 rfl (lv_at hl 0 rfl) ?_
  refine zr_get (ci := 8) G hw 1 7 zi_8 rfl rfl rfl (by decide) zm_556 (fun _ h => h) (v := .int (zs_i σ 1 7)) rfl d_M_is_1 ?_
  refine lv_iconst (v := 1) hx hb d_M_is_4 (by decide) ?_
  refine lv_icmp_eq hx hb d_M_is_5 (tgt := 16) rfl (fun hc => ?_) (fun hc => ?_)
  · have hf := (if_pos hc).symm.trans hf
    exact K16 x1 σ H locs ls hf hw (lv_sub hl [0, 1] rfl)
  · have hf := (if_neg hc).symm.trans hf
    refine lv_aload_n hx hb d_M_is_8 rfl (lv_at hl 0 rfl) ?_
    refine zr_get (ci := 8) G hw 1 7 zi_8 rfl rfl rfl (by decide) zm_556 (fun _ h => h) (v := .int (zs_i σ 1 7)) rfl d_M_is_9 ?_
    refine lv_iconst (v := 3) hx hb d_M_is_12 (by decide) ?_
    refine lv_icmp_ne hx hb d_M_is_13 (tgt := 32) rfl (fun hc => ?_) (fun hc => ?_)
    · have hf := (if_neg hc).symm.trans hf
      exact K32 σ H locs ls hf hw (lv_sub hl [] rfl)
    · have hf := (if_pos hc).symm.trans hf
      exact K16 x1 σ H locs ls hf hw (lv_sub hl [0, 1] rfl)
/-! ScheduleCheckModel.isName -/
def y_M_isName : MethodName := ⟨"ScheduleCheckModel","isName","()Z"⟩
theorem d_M_isName_0 : decode prog_13_method_9_code 0 = .ok (.aload_n 0, 1) := by decide +kernel
theorem d_M_isName_1 : decode prog_13_method_9_code 1 = .ok (.ldc 107, 2) := by decide +kernel
theorem d_M_isName_3 : decode prog_13_method_9_code 3 = .ok (.invokevirtual 109, 3) := by decide +kernel
theorem d_M_isName_6 : decode prog_13_method_9_code 6 = .ok (.ifCond .ne 120, 3) := by decide +kernel
theorem d_M_isName_9 : decode prog_13_method_9_code 9 = .ok (.aload_n 0, 1) := by decide +kernel
theorem d_M_isName_10 : decode prog_13_method_9_code 10 = .ok (.ldc 113, 2) := by decide +kernel
theorem d_M_isName_12 : decode prog_13_method_9_code 12 = .ok (.invokevirtual 109, 3) := by decide +kernel
theorem d_M_isName_15 : decode prog_13_method_9_code 15 = .ok (.ifCond .ne 111, 3) := by decide +kernel
theorem d_M_isName_18 : decode prog_13_method_9_code 18 = .ok (.aload_n 0, 1) := by decide +kernel
theorem d_M_isName_19 : decode prog_13_method_9_code 19 = .ok (.ldc 115, 2) := by decide +kernel
theorem d_M_isName_21 : decode prog_13_method_9_code 21 = .ok (.invokevirtual 109, 3) := by decide +kernel
theorem d_M_isName_24 : decode prog_13_method_9_code 24 = .ok (.ifCond .ne 102, 3) := by decide +kernel
theorem d_M_isName_27 : decode prog_13_method_9_code 27 = .ok (.aload_n 0, 1) := by decide +kernel
theorem d_M_isName_28 : decode prog_13_method_9_code 28 = .ok (.ldc 117, 2) := by decide +kernel
theorem d_M_isName_30 : decode prog_13_method_9_code 30 = .ok (.invokevirtual 109, 3) := by decide +kernel
theorem d_M_isName_33 : decode prog_13_method_9_code 33 = .ok (.ifCond .ne 93, 3) := by decide +kernel
theorem d_M_isName_36 : decode prog_13_method_9_code 36 = .ok (.aload_n 0, 1) := by decide +kernel
theorem d_M_isName_37 : decode prog_13_method_9_code 37 = .ok (.ldc 119, 2) := by decide +kernel
theorem d_M_isName_39 : decode prog_13_method_9_code 39 = .ok (.invokevirtual 109, 3) := by decide +kernel
theorem d_M_isName_42 : decode prog_13_method_9_code 42 = .ok (.ifCond .ne 84, 3) := by decide +kernel
theorem d_M_isName_45 : decode prog_13_method_9_code 45 = .ok (.aload_n 0, 1) := by decide +kernel
theorem d_M_isName_46 : decode prog_13_method_9_code 46 = .ok (.ldc 121, 2) := by decide +kernel
theorem d_M_isName_48 : decode prog_13_method_9_code 48 = .ok (.invokevirtual 109, 3) := by decide +kernel
theorem d_M_isName_51 : decode prog_13_method_9_code 51 = .ok (.ifCond .ne 75, 3) := by decide +kernel
theorem d_M_isName_54 : decode prog_13_method_9_code 54 = .ok (.aload_n 0, 1) := by decide +kernel
theorem d_M_isName_55 : decode prog_13_method_9_code 55 = .ok (.ldc 123, 2) := by decide +kernel
theorem d_M_isName_57 : decode prog_13_method_9_code 57 = .ok (.invokevirtual 109, 3) := by decide +kernel
theorem d_M_isName_60 : decode prog_13_method_9_code 60 = .ok (.ifCond .ne 66, 3) := by decide +kernel
theorem d_M_isName_63 : decode prog_13_method_9_code 63 = .ok (.aload_n 0, 1) := by decide +kernel
theorem d_M_isName_64 : decode prog_13_method_9_code 64 = .ok (.ldc 125, 2) := by decide +kernel
theorem d_M_isName_66 : decode prog_13_method_9_code 66 = .ok (.invokevirtual 109, 3) := by decide +kernel
theorem d_M_isName_69 : decode prog_13_method_9_code 69 = .ok (.ifCond .ne 57, 3) := by decide +kernel
theorem d_M_isName_72 : decode prog_13_method_9_code 72 = .ok (.aload_n 0, 1) := by decide +kernel
theorem d_M_isName_73 : decode prog_13_method_9_code 73 = .ok (.ldc 127, 2) := by decide +kernel
theorem d_M_isName_75 : decode prog_13_method_9_code 75 = .ok (.invokevirtual 109, 3) := by decide +kernel
theorem d_M_isName_78 : decode prog_13_method_9_code 78 = .ok (.ifCond .ne 48, 3) := by decide +kernel
theorem d_M_isName_81 : decode prog_13_method_9_code 81 = .ok (.aload_n 0, 1) := by decide +kernel
theorem d_M_isName_82 : decode prog_13_method_9_code 82 = .ok (.ldc 129, 2) := by decide +kernel
theorem d_M_isName_84 : decode prog_13_method_9_code 84 = .ok (.invokevirtual 109, 3) := by decide +kernel
theorem d_M_isName_87 : decode prog_13_method_9_code 87 = .ok (.ifCond .ne 39, 3) := by decide +kernel
theorem d_M_isName_90 : decode prog_13_method_9_code 90 = .ok (.aload_n 0, 1) := by decide +kernel
theorem d_M_isName_91 : decode prog_13_method_9_code 91 = .ok (.ldc 131, 2) := by decide +kernel
theorem d_M_isName_93 : decode prog_13_method_9_code 93 = .ok (.invokevirtual 109, 3) := by decide +kernel
theorem d_M_isName_96 : decode prog_13_method_9_code 96 = .ok (.ifCond .ne 30, 3) := by decide +kernel
theorem d_M_isName_99 : decode prog_13_method_9_code 99 = .ok (.aload_n 0, 1) := by decide +kernel
theorem d_M_isName_100 : decode prog_13_method_9_code 100 = .ok (.ldc 133, 2) := by decide +kernel
theorem d_M_isName_102 : decode prog_13_method_9_code 102 = .ok (.invokevirtual 109, 3) := by decide +kernel
theorem d_M_isName_105 : decode prog_13_method_9_code 105 = .ok (.ifCond .ne 21, 3) := by decide +kernel
theorem d_M_isName_108 : decode prog_13_method_9_code 108 = .ok (.aload_n 0, 1) := by decide +kernel
theorem d_M_isName_109 : decode prog_13_method_9_code 109 = .ok (.ldc 135, 2) := by decide +kernel
theorem d_M_isName_111 : decode prog_13_method_9_code 111 = .ok (.invokevirtual 109, 3) := by decide +kernel
theorem d_M_isName_114 : decode prog_13_method_9_code 114 = .ok (.ifCond .ne 12, 3) := by decide +kernel
theorem d_M_isName_117 : decode prog_13_method_9_code 117 = .ok (.aload_n 0, 1) := by decide +kernel
theorem d_M_isName_118 : decode prog_13_method_9_code 118 = .ok (.ldc 137, 2) := by decide +kernel
theorem d_M_isName_120 : decode prog_13_method_9_code 120 = .ok (.invokevirtual 109, 3) := by decide +kernel
theorem d_M_isName_123 : decode prog_13_method_9_code 123 = .ok (.ifCond .eq 7, 3) := by decide +kernel
theorem d_M_isName_126 : decode prog_13_method_9_code 126 = .ok (.iconst 1, 1) := by decide +kernel
theorem d_M_isName_127 : decode prog_13_method_9_code 127 = .ok (.goto 4, 3) := by decide +kernel
theorem d_M_isName_130 : decode prog_13_method_9_code 130 = .ok (.iconst 0, 1) := by decide +kernel
theorem d_M_isName_131 : decode prog_13_method_9_code 131 = .ok (.istore_n 1, 1) := by decide +kernel
theorem d_M_isName_132 : decode prog_13_method_9_code 132 = .ok (.aload_n 0, 1) := by decide +kernel
theorem d_M_isName_133 : decode prog_13_method_9_code 133 = .ok (.getfield 75, 3) := by decide +kernel
theorem d_M_isName_136 : decode prog_13_method_9_code 136 = .ok (.iconst 1, 1) := by decide +kernel
theorem d_M_isName_137 : decode prog_13_method_9_code 137 = .ok (.if_icmp .ne 11, 3) := by decide +kernel
theorem d_M_isName_140 : decode prog_13_method_9_code 140 = .ok (.iload_n 1, 1) := by decide +kernel
theorem d_M_isName_141 : decode prog_13_method_9_code 141 = .ok (.ifCond .ne 7, 3) := by decide +kernel
theorem d_M_isName_144 : decode prog_13_method_9_code 144 = .ok (.iconst 1, 1) := by decide +kernel
theorem d_M_isName_145 : decode prog_13_method_9_code 145 = .ok (.goto 4, 3) := by decide +kernel
theorem d_M_isName_148 : decode prog_13_method_9_code 148 = .ok (.iconst 0, 1) := by decide +kernel
theorem d_M_isName_149 : decode prog_13_method_9_code 149 = .ok (.ireturn, 1) := by decide +kernel
def zf_M_isName_149 (F : Nat)  (t0 : Int32) (σ : zs_S) : Option (Int32 × zs_S) :=
  zq_g (zq_z t0) <|
  some (t0, σ)
def zf_M_isName_148 (F : Nat)   (σ : zs_S) : Option (Int32 × zs_S) :=
  zf_M_isName_149 F 0 σ
def zf_M_isName_131 (F : Nat)  (t0 : Int32) (σ : zs_S) : Option (Int32 × zs_S) :=
  if (zs_i σ 1 7) = 1 then (
    if t0 = 0 then (
      zf_M_isName_149 F 1 σ
    ) else (
      zf_M_isName_148 F σ
    )
  ) else (
    zf_M_isName_148 F σ
  )
def zf_M_isName_126 (F : Nat)   (σ : zs_S) : Option (Int32 × zs_S) :=
  zf_M_isName_131 F 1 σ
def zf_M_isName (F : Nat)  (σ : zs_S) : Option (Int32 × zs_S) :=
  zq_c (zf_M_is F 1300 σ) fun r2 σ1 =>
  if r2 = 0 then (
    zq_c (zf_M_is F 1301 σ1) fun r5 σ4 =>
    if r5 = 0 then (
      zq_c (zf_M_is F 1302 σ4) fun r8 σ7 =>
      if r8 = 0 then (
        zq_c (zf_M_is F 1303 σ7) fun r11 σ10 =>
        if r11 = 0 then (
          zq_c (zf_M_is F 1304 σ10) fun r14 σ13 =>
          if r14 = 0 then (
            zq_c (zf_M_is F 1305 σ13) fun r17 σ16 =>
            if r17 = 0 then (
              zq_c (zf_M_is F 1306 σ16) fun r20 σ19 =>
              if r20 = 0 then (
                zq_c (zf_M_is F 1307 σ19) fun r23 σ22 =>
                if r23 = 0 then (
                  zq_c (zf_M_is F 1308 σ22) fun r26 σ25 =>
                  if r26 = 0 then (
                    zq_c (zf_M_is F 1309 σ25) fun r29 σ28 =>
                    if r29 = 0 then (
                      zq_c (zf_M_is F 1310 σ28) fun r32 σ31 =>
                      if r32 = 0 then (
                        zq_c (zf_M_is F 1311 σ31) fun r35 σ34 =>
                        if r35 = 0 then (
                          zq_c (zf_M_is F 1312 σ34) fun r38 σ37 =>
                          if r38 = 0 then (
                            zq_c (zf_M_is F 1313 σ37) fun r41 σ40 =>
                            if r41 = 0 then (
                              zf_M_isName_131 F 0 σ40
                            ) else (
                              zf_M_isName_126 F σ40
                            )
                          ) else (
                            zf_M_isName_126 F σ37
                          )
                        ) else (
                          zf_M_isName_126 F σ34
                        )
                      ) else (
                        zf_M_isName_126 F σ31
                      )
                    ) else (
                      zf_M_isName_126 F σ28
                    )
                  ) else (
                    zf_M_isName_126 F σ25
                  )
                ) else (
                  zf_M_isName_126 F σ22
                )
              ) else (
                zf_M_isName_126 F σ19
              )
            ) else (
              zf_M_isName_126 F σ16
            )
          ) else (
            zf_M_isName_126 F σ13
          )
        ) else (
          zf_M_isName_126 F σ10
        )
      ) else (
        zf_M_isName_126 F σ7
      )
    ) else (
      zf_M_isName_126 F σ4
    )
  ) else (
    zf_M_isName_126 F σ1
  )
set_option maxHeartbeats 4000000 in
set_option maxRecDepth 100000 in
theorem zc_M_isName {l : Launch} {D : va_G} {cA : Nat → ClassId} {ad : Nat → Nat} {A : Nat → Prop} {F : Nat}  {σ : zs_S} {q : Int32 × zs_S} (hJ : zs_J ad) (hf : zf_M_isName F  σ = some q) : Met l y_M_isName (.code y_M_isName prog_13_method_9_code 2 (some .boolean) :: zd_ww) { frames := 5, cells := 0, slots := 0, locals := 107 } (va_Pc [.ref (ad 1)] (zs_U 1 D cA ad A σ)) (zs_Qi 1 D cA ad A q) 0 0 A := by
  refine Met.ofW (cc := prog_13_method_9_code) (maxL := 2) (ret := (some .boolean)) (by decide) rfl ?_
  intro p e s m args below meth c s₁ B hml hv
  obtain ⟨hargs, hP, hK, hD, hZ⟩ := hv
  have G : zs_G 1 p s m args c prog_13_method_9_code 2 "ScheduleCheckModel" D cA ad A := ⟨⟨B.exec, B.bytes, hml, findClass_of_methodNamed B.named, fun w h => atoms_spec B.pre w (List.mem_cons_of_mem _ h)⟩, hK, hJ, hZ⟩
  have hw : zs_I 1 D cA ad A s σ s.heap [] := ⟨hP, hD, va_S.rf⟩
  have hx := G.1.1
  have hb := G.1.2.1
  have hown := G.1.2.2.2.1
  have hts := G.1.2.2.2.2
  have hr := B.returns
  have hlocks := B.notSynchronized
  have he : entryFrame m args 2 = F0 m 0 ((lg_sl [.ref (ad 1)] ++ List.replicate (2 - (lg_sl [.ref (ad 1)]).length) Slot.unset).toArray) [] := by rw [hargs]; exact lg_entry_eq m _ 2
  have hl := lv_entry [.ref (ad 1)] (n := 2) (Nat.le_of_ble_eq_true rfl)
  rw [he]
  generalize (lg_sl [.ref (ad 1)] ++ List.replicate (2 - (lg_sl [.ref (ad 1)]).length) Slot.unset).toArray = ls at hl
  have hl : lv_has ls 2 [(0, .ref (ad 1))] := hl
  obtain ⟨RR, hR⟩ : ∃ z, z = (headSpec (.code y_M_isName prog_13_method_9_code 2 (some .boolean) :: zd_ww) { frames := 5, cells := 0, slots := 0, locals := 107 }).room := ⟨_, rfl⟩
  rw [← hR]
  obtain ⟨QQ, hQ⟩ : ∃ z, z = MQ below (zs_Qi 1 D cA ad A q) args s 0 0 A := ⟨_, rfl⟩
  rw [← hQ]
  have hR1 : 5 ≤ RR.frames := by rw [hR]; exact Nat.le_refl _
  have hR2 : 107 ≤ RR.locals := by rw [hR]; exact Nat.le_refl _
  generalize s.heap = H at hw ⊢
  generalize ([] : List Loc) = locs at hw ⊢
  have K149 : ∀ (t0 : Int32) (σ : zs_S) (H : Heap) (locs : List Loc) (ls : Array Slot), zf_M_isName_149 F t0 σ = some q → zs_I 1 D cA ad A s σ H locs → lv_has ls 2 [] → W p l e RR s m args below meth c H locs 0 0 QQ (F0 m 149 ls [.int t0]) := by
    intro  t0 σ H locs ls hf hw hl
    unfold zf_M_isName_149 at hf
    obtain ⟨hz, hf⟩ := zq_gs hf
    exact zr_zret G hw hr hlocks hz hf hQ d_M_isName_149
  have K148 : ∀ (σ : zs_S) (H : Heap) (locs : List Loc) (ls : Array Slot), zf_M_isName_148 F σ = some q → zs_I 1 D cA ad A s σ H locs → lv_has ls 2 [] → W p l e RR s m args below meth c H locs 0 0 QQ (F0 m 148 ls []) := by
    intro   σ H locs ls hf hw hl
    unfold zf_M_isName_148 at hf
    refine lv_iconst (v := 0) hx hb d_M_isName_148 (by decide) ?_
    exact K149 0 σ H locs ls hf hw (lv_sub hl [] rfl)
  have K131 : ∀ (t0 : Int32) (σ : zs_S) (H : Heap) (locs : List Loc) (ls : Array Slot), zf_M_isName_131 F t0 σ = some q → zs_I 1 D cA ad A s σ H locs → lv_has ls 2 [(0, .ref (ad 1))] → W p l e RR s m args below meth c H locs 0 0 QQ (F0 m 131 ls [.int t0]) := by
    intro  t0 σ H locs ls hf hw hl
    unfold zf_M_isName_131 at hf
    refine lv_istore_n hx hb d_M_isName_131 rfl hl (by decide) rfl (fun ls hl => ?_)
    have hl : lv_has ls 2 [(1, .int t0), (0, .ref (ad 1))] := hl
    refine lv_aload_n hx hb d_M_isName_132 rfl (lv_at hl 1 rfl) ?_
    refine zr_get (ci := 8) G hw 1 7 zi_8 rfl rfl rfl (by decide) zm_556 (fun _ h => h) (v := .int (zs_i σ 1 7)) rfl d_M_isName_133 ?_
    refine lv_iconst (v := 1) hx hb d_M_isName_136 (by decide) ?_
    refine lv_icmp_ne hx hb d_M_isName_137 (tgt := 148) rfl (fun hc => ?_) (fun hc => ?_)
    · have hf := (if_neg hc).symm.trans hf
      exact K148 σ H locs ls hf hw (lv_sub hl [] rfl)
    · have hf := (if_pos hc).symm.trans hf
      refine lv_iload_n hx hb d_M_isName_140 rfl (lv_at hl 0 rfl) ?_
      refine lv_if_ne hx hb d_M_isName_141 (tgt := 148) rfl (fun hc => ?_) (fun hc => ?_)
      · have hf := (if_neg hc).symm.trans hf
        exact K148 σ H locs ls hf hw (lv_sub hl [] rfl)
      · have hf := (if_pos hc).symm.trans hf
        refine lv_iconst (v := 1) hx hb d_M_isName_144 (by decide) ?_
        refine lv_goto hx hb d_M_isName_145 (tgt := 149) rfl ?_
        exact K149 1 σ H locs ls hf hw (lv_sub hl [] rfl)
  have K126 : ∀ (σ : zs_S) (H : Heap) (locs : List Loc) (ls : Array Slot), zf_M_isName_126 F σ = some q → zs_I 1 D cA ad A s σ H locs → lv_has ls 2 [(0, .ref (ad 1))] → W p l e RR s m args below meth c H locs 0 0 QQ (F0 m 126 ls []) := by
    intro   σ H locs ls hf hw hl
    unfold zf_M_isName_126 at hf
    refine lv_iconst (v := 1) hx hb d_M_isName_126 (by decide) ?_
    refine lv_goto hx hb d_M_isName_127 (tgt := 131) rfl ?_
    exact K131 1 σ H locs ls hf hw (lv_sub hl [0] rfl)
  unfold zf_M_isName at hf
  refine lv_aload_n hx hb d_M_isName_0 rfl (lv_at hl 0 rfl) ?_
  refine va_ldcS (own := "ScheduleCheckModel") (tx := "var") (q := ad 1300) hx hb hown ((G.2.2.2.2 rfl).2.2.1 0 (by decide)) d_M_isName_1 ?_
  obtain ⟨r2, σ1, hc3, hf⟩ := zq_cs hf
  refine zr_ci hw (zr_runV (rest := []) (ci := 8) (o := 1) G hw [.ref (ad 1300)] (zc_M_is hJ hc3) (cwV 1 hts (zs_gV zm_568 zm_569 zm_570 zm_551 zm_567) rfl rfl rfl (by decide +kernel) ⟨Nat.le_trans (by decide) hR1, Nat.le_trans (by decide) hR2⟩) rfl rfl rfl hl.1 (Nat.le_of_ble_eq_true rfl) d_M_isName_3 ⟨Nat.zero_le _, Nat.zero_le _⟩) (fun H locs hw => ?_)
  refine lv_if_ne hx hb d_M_isName_6 (tgt := 126) rfl (fun hc => ?_) (fun hc => ?_)
  · have hf := (if_neg hc).symm.trans hf
    exact K126 σ1 H locs ls hf hw (lv_sub hl [0] rfl)
  · have hf := (if_pos hc).symm.trans hf
    refine lv_aload_n hx hb d_M_isName_9 rfl (lv_at hl 0 rfl) ?_
    refine va_ldcS (own := "ScheduleCheckModel") (tx := "lock") (q := ad 1301) hx hb hown ((G.2.2.2.2 rfl).2.2.1 1 (by decide)) d_M_isName_10 ?_
    obtain ⟨r5, σ4, hc6, hf⟩ := zq_cs hf
    refine zr_ci hw (zr_runV (rest := []) (ci := 8) (o := 1) G hw [.ref (ad 1301)] (zc_M_is hJ hc6) (cwV 1 hts (zs_gV zm_568 zm_569 zm_570 zm_551 zm_567) rfl rfl rfl (by decide +kernel) ⟨Nat.le_trans (by decide) hR1, Nat.le_trans (by decide) hR2⟩) rfl rfl rfl hl.1 (Nat.le_of_ble_eq_true rfl) d_M_isName_12 ⟨Nat.zero_le _, Nat.zero_le _⟩) (fun H locs hw => ?_)
    refine lv_if_ne hx hb d_M_isName_15 (tgt := 126) rfl (fun hc => ?_) (fun hc => ?_)
    · have hf := (if_neg hc).symm.trans hf
      exact K126 σ4 H locs ls hf hw (lv_sub hl [0] rfl)
    · have hf := (if_pos hc).symm.trans hf
      refine lv_aload_n hx hb d_M_isName_18 rfl (lv_at hl 0 rfl) ?_
      refine va_ldcS (own := "ScheduleCheckModel") (tx := "thread") (q := ad 1302) hx hb hown ((G.2.2.2.2 rfl).2.2.1 2 (by decide)) d_M_isName_19 ?_
      obtain ⟨r8, σ7, hc9, hf⟩ := zq_cs hf
      refine zr_ci hw (zr_runV (rest := []) (ci := 8) (o := 1) G hw [.ref (ad 1302)] (zc_M_is hJ hc9) (cwV 1 hts (zs_gV zm_568 zm_569 zm_570 zm_551 zm_567) rfl rfl rfl (by decide +kernel) ⟨Nat.le_trans (by decide) hR1, Nat.le_trans (by decide) hR2⟩) rfl rfl rfl hl.1 (Nat.le_of_ble_eq_true rfl) d_M_isName_21 ⟨Nat.zero_le _, Nat.zero_le _⟩) (fun H locs hw => ?_)
      refine lv_if_ne hx hb d_M_isName_24 (tgt := 126) rfl (fun hc => ?_) (fun hc => ?_)
      · have hf := (if_neg hc).symm.trans hf
        exact K126 σ7 H locs ls hf hw (lv_sub hl [0] rfl)
      · have hf := (if_pos hc).symm.trans hf
        refine lv_aload_n hx hb d_M_isName_27 rfl (lv_at hl 0 rfl) ?_
        refine va_ldcS (own := "ScheduleCheckModel") (tx := "local") (q := ad 1303) hx hb hown ((G.2.2.2.2 rfl).2.2.1 3 (by decide)) d_M_isName_28 ?_
        obtain ⟨r11, σ10, hc12, hf⟩ := zq_cs hf
        refine zr_ci hw (zr_runV (rest := []) (ci := 8) (o := 1) G hw [.ref (ad 1303)] (zc_M_is hJ hc12) (cwV 1 hts (zs_gV zm_568 zm_569 zm_570 zm_551 zm_567) rfl rfl rfl (by decide +kernel) ⟨Nat.le_trans (by decide) hR1, Nat.le_trans (by decide) hR2⟩) rfl rfl rfl hl.1 (Nat.le_of_ble_eq_true rfl) d_M_isName_30 ⟨Nat.zero_le _, Nat.zero_le _⟩) (fun H locs hw => ?_)
        refine lv_if_ne hx hb d_M_isName_33 (tgt := 126) rfl (fun hc => ?_) (fun hc => ?_)
        · have hf := (if_neg hc).symm.trans hf
          exact K126 σ10 H locs ls hf hw (lv_sub hl [0] rfl)
        · have hf := (if_pos hc).symm.trans hf
          refine lv_aload_n hx hb d_M_isName_36 rfl (lv_at hl 0 rfl) ?_
          refine va_ldcS (own := "ScheduleCheckModel") (tx := "take") (q := ad 1304) hx hb hown ((G.2.2.2.2 rfl).2.2.1 4 (by decide)) d_M_isName_37 ?_
          obtain ⟨r14, σ13, hc15, hf⟩ := zq_cs hf
          refine zr_ci hw (zr_runV (rest := []) (ci := 8) (o := 1) G hw [.ref (ad 1304)] (zc_M_is hJ hc15) (cwV 1 hts (zs_gV zm_568 zm_569 zm_570 zm_551 zm_567) rfl rfl rfl (by decide +kernel) ⟨Nat.le_trans (by decide) hR1, Nat.le_trans (by decide) hR2⟩) rfl rfl rfl hl.1 (Nat.le_of_ble_eq_true rfl) d_M_isName_39 ⟨Nat.zero_le _, Nat.zero_le _⟩) (fun H locs hw => ?_)
          refine lv_if_ne hx hb d_M_isName_42 (tgt := 126) rfl (fun hc => ?_) (fun hc => ?_)
          · have hf := (if_neg hc).symm.trans hf
            exact K126 σ13 H locs ls hf hw (lv_sub hl [0] rfl)
          · have hf := (if_pos hc).symm.trans hf
            refine lv_aload_n hx hb d_M_isName_45 rfl (lv_at hl 0 rfl) ?_
            refine va_ldcS (own := "ScheduleCheckModel") (tx := "give") (q := ad 1305) hx hb hown ((G.2.2.2.2 rfl).2.2.1 5 (by decide)) d_M_isName_46 ?_
            obtain ⟨r17, σ16, hc18, hf⟩ := zq_cs hf
            refine zr_ci hw (zr_runV (rest := []) (ci := 8) (o := 1) G hw [.ref (ad 1305)] (zc_M_is hJ hc18) (cwV 1 hts (zs_gV zm_568 zm_569 zm_570 zm_551 zm_567) rfl rfl rfl (by decide +kernel) ⟨Nat.le_trans (by decide) hR1, Nat.le_trans (by decide) hR2⟩) rfl rfl rfl hl.1 (Nat.le_of_ble_eq_true rfl) d_M_isName_48 ⟨Nat.zero_le _, Nat.zero_le _⟩) (fun H locs hw => ?_)
            refine lv_if_ne hx hb d_M_isName_51 (tgt := 126) rfl (fun hc => ?_) (fun hc => ?_)
            · have hf := (if_neg hc).symm.trans hf
              exact K126 σ16 H locs ls hf hw (lv_sub hl [0] rfl)
            · have hf := (if_pos hc).symm.trans hf
              refine lv_aload_n hx hb d_M_isName_54 rfl (lv_at hl 0 rfl) ?_
              refine va_ldcS (own := "ScheduleCheckModel") (tx := "wait") (q := ad 1306) hx hb hown ((G.2.2.2.2 rfl).2.2.1 6 (by decide)) d_M_isName_55 ?_
              obtain ⟨r20, σ19, hc21, hf⟩ := zq_cs hf
              refine zr_ci hw (zr_runV (rest := []) (ci := 8) (o := 1) G hw [.ref (ad 1306)] (zc_M_is hJ hc21) (cwV 1 hts (zs_gV zm_568 zm_569 zm_570 zm_551 zm_567) rfl rfl rfl (by decide +kernel) ⟨Nat.le_trans (by decide) hR1, Nat.le_trans (by decide) hR2⟩) rfl rfl rfl hl.1 (Nat.le_of_ble_eq_true rfl) d_M_isName_57 ⟨Nat.zero_le _, Nat.zero_le _⟩) (fun H locs hw => ?_)
              refine lv_if_ne hx hb d_M_isName_60 (tgt := 126) rfl (fun hc => ?_) (fun hc => ?_)
              · have hf := (if_neg hc).symm.trans hf
                exact K126 σ19 H locs ls hf hw (lv_sub hl [0] rfl)
              · have hf := (if_pos hc).symm.trans hf
                refine lv_aload_n hx hb d_M_isName_63 rfl (lv_at hl 0 rfl) ?_
                refine va_ldcS (own := "ScheduleCheckModel") (tx := "wake") (q := ad 1307) hx hb hown ((G.2.2.2.2 rfl).2.2.1 7 (by decide)) d_M_isName_64 ?_
                obtain ⟨r23, σ22, hc24, hf⟩ := zq_cs hf
                refine zr_ci hw (zr_runV (rest := []) (ci := 8) (o := 1) G hw [.ref (ad 1307)] (zc_M_is hJ hc24) (cwV 1 hts (zs_gV zm_568 zm_569 zm_570 zm_551 zm_567) rfl rfl rfl (by decide +kernel) ⟨Nat.le_trans (by decide) hR1, Nat.le_trans (by decide) hR2⟩) rfl rfl rfl hl.1 (Nat.le_of_ble_eq_true rfl) d_M_isName_66 ⟨Nat.zero_le _, Nat.zero_le _⟩) (fun H locs hw => ?_)
                refine lv_if_ne hx hb d_M_isName_69 (tgt := 126) rfl (fun hc => ?_) (fun hc => ?_)
                · have hf := (if_neg hc).symm.trans hf
                  exact K126 σ22 H locs ls hf hw (lv_sub hl [0] rfl)
                · have hf := (if_pos hc).symm.trans hf
                  refine lv_aload_n hx hb d_M_isName_72 rfl (lv_at hl 0 rfl) ?_
                  refine va_ldcS (own := "ScheduleCheckModel") (tx := "all") (q := ad 1308) hx hb hown ((G.2.2.2.2 rfl).2.2.1 8 (by decide)) d_M_isName_73 ?_
                  obtain ⟨r26, σ25, hc27, hf⟩ := zq_cs hf
                  refine zr_ci hw (zr_runV (rest := []) (ci := 8) (o := 1) G hw [.ref (ad 1308)] (zc_M_is hJ hc27) (cwV 1 hts (zs_gV zm_568 zm_569 zm_570 zm_551 zm_567) rfl rfl rfl (by decide +kernel) ⟨Nat.le_trans (by decide) hR1, Nat.le_trans (by decide) hR2⟩) rfl rfl rfl hl.1 (Nat.le_of_ble_eq_true rfl) d_M_isName_75 ⟨Nat.zero_le _, Nat.zero_le _⟩) (fun H locs hw => ?_)
                  refine lv_if_ne hx hb d_M_isName_78 (tgt := 126) rfl (fun hc => ?_) (fun hc => ?_)
                  · have hf := (if_neg hc).symm.trans hf
                    exact K126 σ25 H locs ls hf hw (lv_sub hl [0] rfl)
                  · have hf := (if_pos hc).symm.trans hf
                    refine lv_aload_n hx hb d_M_isName_81 rfl (lv_at hl 0 rfl) ?_
                    refine va_ldcS (own := "ScheduleCheckModel") (tx := "assert") (q := ad 1309) hx hb hown ((G.2.2.2.2 rfl).2.2.1 9 (by decide)) d_M_isName_82 ?_
                    obtain ⟨r29, σ28, hc30, hf⟩ := zq_cs hf
                    refine zr_ci hw (zr_runV (rest := []) (ci := 8) (o := 1) G hw [.ref (ad 1309)] (zc_M_is hJ hc30) (cwV 1 hts (zs_gV zm_568 zm_569 zm_570 zm_551 zm_567) rfl rfl rfl (by decide +kernel) ⟨Nat.le_trans (by decide) hR1, Nat.le_trans (by decide) hR2⟩) rfl rfl rfl hl.1 (Nat.le_of_ble_eq_true rfl) d_M_isName_84 ⟨Nat.zero_le _, Nat.zero_le _⟩) (fun H locs hw => ?_)
                    refine lv_if_ne hx hb d_M_isName_87 (tgt := 126) rfl (fun hc => ?_) (fun hc => ?_)
                    · have hf := (if_neg hc).symm.trans hf
                      exact K126 σ28 H locs ls hf hw (lv_sub hl [0] rfl)
                    · have hf := (if_pos hc).symm.trans hf
                      refine lv_aload_n hx hb d_M_isName_90 rfl (lv_at hl 0 rfl) ?_
                      refine va_ldcS (own := "ScheduleCheckModel") (tx := "if") (q := ad 1310) hx hb hown ((G.2.2.2.2 rfl).2.2.1 10 (by decide)) d_M_isName_91 ?_
                      obtain ⟨r32, σ31, hc33, hf⟩ := zq_cs hf
                      refine zr_ci hw (zr_runV (rest := []) (ci := 8) (o := 1) G hw [.ref (ad 1310)] (zc_M_is hJ hc33) (cwV 1 hts (zs_gV zm_568 zm_569 zm_570 zm_551 zm_567) rfl rfl rfl (by decide +kernel) ⟨Nat.le_trans (by decide) hR1, Nat.le_trans (by decide) hR2⟩) rfl rfl rfl hl.1 (Nat.le_of_ble_eq_true rfl) d_M_isName_93 ⟨Nat.zero_le _, Nat.zero_le _⟩) (fun H locs hw => ?_)
                      refine lv_if_ne hx hb d_M_isName_96 (tgt := 126) rfl (fun hc => ?_) (fun hc => ?_)
                      · have hf := (if_neg hc).symm.trans hf
                        exact K126 σ31 H locs ls hf hw (lv_sub hl [0] rfl)
                      · have hf := (if_pos hc).symm.trans hf
                        refine lv_aload_n hx hb d_M_isName_99 rfl (lv_at hl 0 rfl) ?_
                        refine va_ldcS (own := "ScheduleCheckModel") (tx := "else") (q := ad 1311) hx hb hown ((G.2.2.2.2 rfl).2.2.1 11 (by decide)) d_M_isName_100 ?_
                        obtain ⟨r35, σ34, hc36, hf⟩ := zq_cs hf
                        refine zr_ci hw (zr_runV (rest := []) (ci := 8) (o := 1) G hw [.ref (ad 1311)] (zc_M_is hJ hc36) (cwV 1 hts (zs_gV zm_568 zm_569 zm_570 zm_551 zm_567) rfl rfl rfl (by decide +kernel) ⟨Nat.le_trans (by decide) hR1, Nat.le_trans (by decide) hR2⟩) rfl rfl rfl hl.1 (Nat.le_of_ble_eq_true rfl) d_M_isName_102 ⟨Nat.zero_le _, Nat.zero_le _⟩) (fun H locs hw => ?_)
                        refine lv_if_ne hx hb d_M_isName_105 (tgt := 126) rfl (fun hc => ?_) (fun hc => ?_)
                        · have hf := (if_neg hc).symm.trans hf
                          exact K126 σ34 H locs ls hf hw (lv_sub hl [0] rfl)
                        · have hf := (if_pos hc).symm.trans hf
                          refine lv_aload_n hx hb d_M_isName_108 rfl (lv_at hl 0 rfl) ?_
                          refine va_ldcS (own := "ScheduleCheckModel") (tx := "while") (q := ad 1312) hx hb hown ((G.2.2.2.2 rfl).2.2.1 12 (by decide)) d_M_isName_109 ?_
                          obtain ⟨r38, σ37, hc39, hf⟩ := zq_cs hf
                          refine zr_ci hw (zr_runV (rest := []) (ci := 8) (o := 1) G hw [.ref (ad 1312)] (zc_M_is hJ hc39) (cwV 1 hts (zs_gV zm_568 zm_569 zm_570 zm_551 zm_567) rfl rfl rfl (by decide +kernel) ⟨Nat.le_trans (by decide) hR1, Nat.le_trans (by decide) hR2⟩) rfl rfl rfl hl.1 (Nat.le_of_ble_eq_true rfl) d_M_isName_111 ⟨Nat.zero_le _, Nat.zero_le _⟩) (fun H locs hw => ?_)
                          refine lv_if_ne hx hb d_M_isName_114 (tgt := 126) rfl (fun hc => ?_) (fun hc => ?_)
                          · have hf := (if_neg hc).symm.trans hf
                            exact K126 σ37 H locs ls hf hw (lv_sub hl [0] rfl)
                          · have hf := (if_pos hc).symm.trans hf
                            refine lv_aload_n hx hb d_M_isName_117 rfl (lv_at hl 0 rfl) ?_
                            refine va_ldcS (own := "ScheduleCheckModel") (tx := "stop") (q := ad 1313) hx hb hown ((G.2.2.2.2 rfl).2.2.1 13 (by decide)) d_M_isName_118 ?_
                            obtain ⟨r41, σ40, hc42, hf⟩ := zq_cs hf
                            refine zr_ci hw (zr_runV (rest := []) (ci := 8) (o := 1) G hw [.ref (ad 1313)] (zc_M_is hJ hc42) (cwV 1 hts (zs_gV zm_568 zm_569 zm_570 zm_551 zm_567) rfl rfl rfl (by decide +kernel) ⟨Nat.le_trans (by decide) hR1, Nat.le_trans (by decide) hR2⟩) rfl rfl rfl hl.1 (Nat.le_of_ble_eq_true rfl) d_M_isName_120 ⟨Nat.zero_le _, Nat.zero_le _⟩) (fun H locs hw => ?_)
                            refine lv_if_eq hx hb d_M_isName_123 (tgt := 130) rfl (fun hc => ?_) (fun hc => ?_)
                            · have hf := (if_pos hc).symm.trans hf
                              refine lv_iconst (v := 0) hx hb d_M_isName_130 (by decide) ?_
                              exact K131 0 σ40 H locs ls hf hw (lv_sub hl [0] rfl)
                            · have hf := (if_neg hc).symm.trans hf
                              exact K126 σ40 H locs ls hf hw (lv_sub hl [0] rfl)
/-! ScheduleCheckModel.take -/
def y_M_take : MethodName := ⟨"ScheduleCheckModel","take","(Ljava/lang/String;)Z"⟩
theorem d_M_take_0 : decode prog_13_method_11_code 0 = .ok (.aload_n 0, 1) := by decide +kernel
theorem d_M_take_1 : decode prog_13_method_11_code 1 = .ok (.aload_n 1, 1) := by decide +kernel
theorem d_M_take_2 : decode prog_13_method_11_code 2 = .ok (.invokevirtual 109, 3) := by decide +kernel
theorem d_M_take_5 : decode prog_13_method_11_code 5 = .ok (.ifCond .ne 8, 3) := by decide +kernel
theorem d_M_take_8 : decode prog_13_method_11_code 8 = .ok (.aload_n 0, 1) := by decide +kernel
theorem d_M_take_9 : decode prog_13_method_11_code 9 = .ok (.invokevirtual 142, 3) := by decide +kernel
theorem d_M_take_12 : decode prog_13_method_11_code 12 = .ok (.ireturn, 1) := by decide +kernel
theorem d_M_take_13 : decode prog_13_method_11_code 13 = .ok (.aload_n 0, 1) := by decide +kernel
theorem d_M_take_14 : decode prog_13_method_11_code 14 = .ok (.invokevirtual 146, 3) := by decide +kernel
theorem d_M_take_17 : decode prog_13_method_11_code 17 = .ok (.iconst 1, 1) := by decide +kernel
theorem d_M_take_18 : decode prog_13_method_11_code 18 = .ok (.ireturn, 1) := by decide +kernel
def zf_M_take (F : Nat) (x1 : Nat) (σ : zs_S) : Option (Int32 × zs_S) :=
  zq_c (zf_M_is F x1 σ) fun r2 σ1 =>
  if r2 = 0 then (
    zq_c (zf_M_bad F σ1) fun r8 σ7 =>
    zq_g (zq_z r8) <|
    some (r8, σ7)
  ) else (
    zq_d (zf_M_step F σ1) fun σ4 =>
    some (1, σ4)
  )
set_option maxHeartbeats 4000000 in
set_option maxRecDepth 100000 in
theorem zc_M_take {l : Launch} {D : va_G} {cA : Nat → ClassId} {ad : Nat → Nat} {A : Nat → Prop} {F : Nat} {x1 : Nat} {σ : zs_S} {q : Int32 × zs_S} (hJ : zs_J ad) (hf : zf_M_take F x1 σ = some q) : Met l y_M_take (.code y_M_take prog_13_method_11_code 2 (some .boolean) :: zd_ww) { frames := 5, cells := 0, slots := 0, locals := 107 } (va_Pc [.ref (ad 1), .ref (ad x1)] (zs_U 1 D cA ad A σ)) (zs_Qi 1 D cA ad A q) 0 0 A := by
  refine Met.ofW (cc := prog_13_method_11_code) (maxL := 2) (ret := (some .boolean)) (by decide) rfl ?_
  intro p e s m args below meth c s₁ B hml hv
  obtain ⟨hargs, hP, hK, hD, hZ⟩ := hv
  have G : zs_G 1 p s m args c prog_13_method_11_code 2 "ScheduleCheckModel" D cA ad A := ⟨⟨B.exec, B.bytes, hml, findClass_of_methodNamed B.named, fun w h => atoms_spec B.pre w (List.mem_cons_of_mem _ h)⟩, hK, hJ, hZ⟩
  have hw : zs_I 1 D cA ad A s σ s.heap [] := ⟨hP, hD, va_S.rf⟩
  have hx := G.1.1
  have hb := G.1.2.1
  have hown := G.1.2.2.2.1
  have hts := G.1.2.2.2.2
  have hr := B.returns
  have hlocks := B.notSynchronized
  have he : entryFrame m args 2 = F0 m 0 ((lg_sl [.ref (ad 1), .ref (ad x1)] ++ List.replicate (2 - (lg_sl [.ref (ad 1), .ref (ad x1)]).length) Slot.unset).toArray) [] := by rw [hargs]; exact lg_entry_eq m _ 2
  have hl := lv_entry [.ref (ad 1), .ref (ad x1)] (n := 2) (Nat.le_of_ble_eq_true rfl)
  rw [he]
  generalize (lg_sl [.ref (ad 1), .ref (ad x1)] ++ List.replicate (2 - (lg_sl [.ref (ad 1), .ref (ad x1)]).length) Slot.unset).toArray = ls at hl
  have hl : lv_has ls 2 [(0, .ref (ad 1)), (1, .ref (ad x1))] := hl
  obtain ⟨RR, hR⟩ : ∃ z, z = (headSpec (.code y_M_take prog_13_method_11_code 2 (some .boolean) :: zd_ww) { frames := 5, cells := 0, slots := 0, locals := 107 }).room := ⟨_, rfl⟩
  rw [← hR]
  obtain ⟨QQ, hQ⟩ : ∃ z, z = MQ below (zs_Qi 1 D cA ad A q) args s 0 0 A := ⟨_, rfl⟩
  rw [← hQ]
  have hR1 : 5 ≤ RR.frames := by rw [hR]; exact Nat.le_refl _
  have hR2 : 107 ≤ RR.locals := by rw [hR]; exact Nat.le_refl _
  generalize s.heap = H at hw ⊢
  generalize ([] : List Loc) = locs at hw ⊢
  unfold zf_M_take at hf
  refine lv_aload_n hx hb d_M_take_0 rfl (lv_at hl 0 rfl) ?_
  refine lv_aload_n hx hb d_M_take_1 rfl (lv_at hl 1 rfl) ?_
  obtain ⟨r2, σ1, hc3, hf⟩ := zq_cs hf
  refine zr_ci hw (zr_runV (rest := []) (ci := 8) (o := 1) G hw [.ref (ad x1)] (zc_M_is hJ hc3) (cwV 1 hts (zs_gV zm_568 zm_569 zm_570 zm_551 zm_567) rfl rfl rfl (by decide +kernel) ⟨Nat.le_trans (by decide) hR1, Nat.le_trans (by decide) hR2⟩) rfl rfl rfl hl.1 (Nat.le_of_ble_eq_true rfl) d_M_take_2 ⟨Nat.zero_le _, Nat.zero_le _⟩) (fun H locs hw => ?_)
  refine lv_if_ne hx hb d_M_take_5 (tgt := 13) rfl (fun hc => ?_) (fun hc => ?_)
  · have hf := (if_neg hc).symm.trans hf
    refine lv_aload_n hx hb d_M_take_13 rfl (lv_at hl 0 rfl) ?_
    obtain ⟨σ4, hc6, hf⟩ := zq_ds hf
    refine zr_cv hw (zr_runV (rest := []) (ci := 8) (o := 1) G hw [] (zc_M_step hJ hc6) (cwV 0 hts (zs_gV zm_572 zm_573 zm_574 zm_551 zm_571) rfl rfl rfl (by decide +kernel) ⟨Nat.le_trans (by decide) hR1, Nat.le_trans (by decide) hR2⟩) rfl rfl rfl hl.1 (Nat.le_of_ble_eq_true rfl) d_M_take_14 ⟨Nat.zero_le _, Nat.zero_le _⟩) (fun H locs hw => ?_)
    refine lv_iconst (v := 1) hx hb d_M_take_17 (by decide) ?_
    exact zr_zret G hw hr hlocks (by decide) hf hQ d_M_take_18
  · have hf := (if_pos hc).symm.trans hf
    refine lv_aload_n hx hb d_M_take_8 rfl (lv_at hl 0 rfl) ?_
    obtain ⟨r8, σ7, hc9, hf⟩ := zq_cs hf
    refine zr_ci hw (zr_runV (rest := []) (ci := 8) (o := 1) G hw [] (zc_M_bad hJ hc9) (cwV 0 hts (zs_gV zm_576 zm_577 zm_578 zm_551 zm_575) rfl rfl rfl (by decide +kernel) ⟨Nat.le_trans (by decide) hR1, Nat.le_trans (by decide) hR2⟩) rfl rfl rfl hl.1 (Nat.le_of_ble_eq_true rfl) d_M_take_9 ⟨Nat.zero_le _, Nat.zero_le _⟩) (fun H locs hw => ?_)
    obtain ⟨hz, hf⟩ := zq_gs hf
    exact zr_zret G hw hr hlocks hz hf hQ d_M_take_12
/-! ScheduleCheckModel$Names.find -/
def y_MN_find : MethodName := ⟨"ScheduleCheckModel$Names","find","([BII)I"⟩
theorem d_MN_find_0 : decode prog_14_method_2_code 0 = .ok (.iconst 0, 1) := by decide +kernel
theorem d_MN_find_1 : decode prog_14_method_2_code 1 = .ok (.istore 4, 2) := by decide +kernel
theorem d_MN_find_3 : decode prog_14_method_2_code 3 = .ok (.iload 4, 2) := by decide +kernel
theorem d_MN_find_5 : decode prog_14_method_2_code 5 = .ok (.aload_n 0, 1) := by decide +kernel
theorem d_MN_find_6 : decode prog_14_method_2_code 6 = .ok (.getfield 19, 3) := by decide +kernel
theorem d_MN_find_9 : decode prog_14_method_2_code 9 = .ok (.if_icmp .ge 84, 3) := by decide +kernel
theorem d_MN_find_12 : decode prog_14_method_2_code 12 = .ok (.aload_n 0, 1) := by decide +kernel
theorem d_MN_find_13 : decode prog_14_method_2_code 13 = .ok (.getfield 15, 3) := by decide +kernel
theorem d_MN_find_16 : decode prog_14_method_2_code 16 = .ok (.iload 4, 2) := by decide +kernel
theorem d_MN_find_18 : decode prog_14_method_2_code 18 = .ok (.iaload, 1) := by decide +kernel
theorem d_MN_find_19 : decode prog_14_method_2_code 19 = .ok (.iload_n 3, 1) := by decide +kernel
theorem d_MN_find_20 : decode prog_14_method_2_code 20 = .ok (.if_icmp .ne 7, 3) := by decide +kernel
theorem d_MN_find_23 : decode prog_14_method_2_code 23 = .ok (.iconst 1, 1) := by decide +kernel
theorem d_MN_find_24 : decode prog_14_method_2_code 24 = .ok (.goto 4, 3) := by decide +kernel
theorem d_MN_find_27 : decode prog_14_method_2_code 27 = .ok (.iconst 0, 1) := by decide +kernel
theorem d_MN_find_28 : decode prog_14_method_2_code 28 = .ok (.istore 5, 2) := by decide +kernel
theorem d_MN_find_30 : decode prog_14_method_2_code 30 = .ok (.iconst 0, 1) := by decide +kernel
theorem d_MN_find_31 : decode prog_14_method_2_code 31 = .ok (.istore 6, 2) := by decide +kernel
theorem d_MN_find_33 : decode prog_14_method_2_code 33 = .ok (.iload 6, 2) := by decide +kernel
theorem d_MN_find_35 : decode prog_14_method_2_code 35 = .ok (.iload_n 3, 1) := by decide +kernel
theorem d_MN_find_36 : decode prog_14_method_2_code 36 = .ok (.if_icmp .ge 43, 3) := by decide +kernel
theorem d_MN_find_39 : decode prog_14_method_2_code 39 = .ok (.iload 5, 2) := by decide +kernel
theorem d_MN_find_41 : decode prog_14_method_2_code 41 = .ok (.ifCond .eq 38, 3) := by decide +kernel
theorem d_MN_find_44 : decode prog_14_method_2_code 44 = .ok (.aload_n 0, 1) := by decide +kernel
theorem d_MN_find_45 : decode prog_14_method_2_code 45 = .ok (.getfield 9, 3) := by decide +kernel
theorem d_MN_find_48 : decode prog_14_method_2_code 48 = .ok (.bipush 8, 2) := by decide +kernel
theorem d_MN_find_50 : decode prog_14_method_2_code 50 = .ok (.iload 4, 2) := by decide +kernel
theorem d_MN_find_52 : decode prog_14_method_2_code 52 = .ok (.imul, 1) := by decide +kernel
theorem d_MN_find_53 : decode prog_14_method_2_code 53 = .ok (.iload 6, 2) := by decide +kernel
theorem d_MN_find_55 : decode prog_14_method_2_code 55 = .ok (.iadd, 1) := by decide +kernel
theorem d_MN_find_56 : decode prog_14_method_2_code 56 = .ok (.baload, 1) := by decide +kernel
theorem d_MN_find_57 : decode prog_14_method_2_code 57 = .ok (.aload_n 1, 1) := by decide +kernel
theorem d_MN_find_58 : decode prog_14_method_2_code 58 = .ok (.iload_n 2, 1) := by decide +kernel
theorem d_MN_find_59 : decode prog_14_method_2_code 59 = .ok (.iload 6, 2) := by decide +kernel
theorem d_MN_find_61 : decode prog_14_method_2_code 61 = .ok (.iadd, 1) := by decide +kernel
theorem d_MN_find_62 : decode prog_14_method_2_code 62 = .ok (.baload, 1) := by decide +kernel
theorem d_MN_find_63 : decode prog_14_method_2_code 63 = .ok (.if_icmp .ne 7, 3) := by decide +kernel
theorem d_MN_find_66 : decode prog_14_method_2_code 66 = .ok (.iconst 1, 1) := by decide +kernel
theorem d_MN_find_67 : decode prog_14_method_2_code 67 = .ok (.goto 4, 3) := by decide +kernel
theorem d_MN_find_70 : decode prog_14_method_2_code 70 = .ok (.iconst 0, 1) := by decide +kernel
theorem d_MN_find_71 : decode prog_14_method_2_code 71 = .ok (.istore 5, 2) := by decide +kernel
theorem d_MN_find_73 : decode prog_14_method_2_code 73 = .ok (.iinc 6 1, 3) := by decide +kernel
theorem d_MN_find_76 : decode prog_14_method_2_code 76 = .ok (.goto (-43), 3) := by decide +kernel
theorem d_MN_find_79 : decode prog_14_method_2_code 79 = .ok (.iload 5, 2) := by decide +kernel
theorem d_MN_find_81 : decode prog_14_method_2_code 81 = .ok (.ifCond .eq 6, 3) := by decide +kernel
theorem d_MN_find_84 : decode prog_14_method_2_code 84 = .ok (.iload 4, 2) := by decide +kernel
theorem d_MN_find_86 : decode prog_14_method_2_code 86 = .ok (.ireturn, 1) := by decide +kernel
theorem d_MN_find_87 : decode prog_14_method_2_code 87 = .ok (.iinc 4 1, 3) := by decide +kernel
theorem d_MN_find_90 : decode prog_14_method_2_code 90 = .ok (.goto (-87), 3) := by decide +kernel
theorem d_MN_find_93 : decode prog_14_method_2_code 93 = .ok (.iconst (-1), 1) := by decide +kernel
theorem d_MN_find_94 : decode prog_14_method_2_code 94 = .ok (.ireturn, 1) := by decide +kernel
def zf_MN_find_79 (F : Nat) (k3 : Nat → Nat → Int32 → Int32 → Int32 → zs_S → Option (Int32 × zs_S)) (x0 : Nat) (x1 : Nat) (x2 : Int32) (x3 : Int32) (x4 : Int32) (x5 : Int32) (σ : zs_S) : Option (Int32 × zs_S) :=
  if x5 = 0 then (
    zq_v (x4 + 1) fun v12 =>
    k3 x0 x1 x2 x3 v12 σ
  ) else (
    some (x4, σ)
  )
def zf_MN_find_71 (F : Nat) (k3 : Nat → Nat → Int32 → Int32 → Int32 → zs_S → Option (Int32 × zs_S)) (k33 : Nat → Nat → Int32 → Int32 → Int32 → Int32 → Int32 → zs_S → Option (Int32 × zs_S)) (x0 : Nat) (x1 : Nat) (x2 : Int32) (x3 : Int32) (x4 : Int32) (x6 : Int32) (t0 : Int32) (σ : zs_S) : Option (Int32 × zs_S) :=
  zq_v (x6 + 1) fun v11 =>
  k33 x0 x1 x2 x3 x4 t0 v11 σ
def zf_MN_find_33 (F : Nat) (k3 : Nat → Nat → Int32 → Int32 → Int32 → zs_S → Option (Int32 × zs_S)) : Nat → Nat → Nat → Int32 → Int32 → Int32 → Int32 → Int32 → zs_S → Option (Int32 × zs_S)
  | 0, _, _, _, _, _, _, _, _ => none
  | n + 1, x0, x1, x2, x3, x4, x5, x6, σ =>
    if x3 ≤ x6 then (
      zf_MN_find_79 F k3 x0 x1 x2 x3 x4 x5 σ
    ) else (
      if x5 = 0 then (
        zf_MN_find_79 F k3 x0 x1 x2 x3 x4 x5 σ
      ) else (
        zq_g (zq_k 1 x0 20) <|
        zq_q (zd_rf 1 x0 0) fun q6 =>
        zq_g (zq_k 1 q6 1) <|
        zq_g (zq_b ((8 * x4) + x6) (zd_sh 1 q6).2) <|
        zq_g (zq_k 1 x1 1) <|
        zq_g (zq_b (x2 + x6) (zd_sh 1 x1).2) <|
        if (zs_i σ q6 ((8 * x4) + x6).toNatClampNeg) = (zs_i σ x1 (x2 + x6).toNatClampNeg) then (
          zf_MN_find_71 F k3 (zf_MN_find_33 F k3 n) x0 x1 x2 x3 x4 x6 1 σ
        ) else (
          zf_MN_find_71 F k3 (zf_MN_find_33 F k3 n) x0 x1 x2 x3 x4 x6 0 σ
        )
      )
    )
def zf_MN_find_28 (F : Nat) (k3 : Nat → Nat → Int32 → Int32 → Int32 → zs_S → Option (Int32 × zs_S)) (x0 : Nat) (x1 : Nat) (x2 : Int32) (x3 : Int32) (x4 : Int32) (t0 : Int32) (σ : zs_S) : Option (Int32 × zs_S) :=
  zf_MN_find_33 F k3 F x0 x1 x2 x3 x4 t0 0 σ
def zf_MN_find_3 (F : Nat)  : Nat → Nat → Nat → Int32 → Int32 → Int32 → zs_S → Option (Int32 × zs_S)
  | 0, _, _, _, _, _, _ => none
  | n + 1, x0, x1, x2, x3, x4, σ =>
    zq_g (zq_k 1 x0 20) <|
    if (zs_i σ x0 2) ≤ x4 then (
      some ((-1), σ)
    ) else (
      zq_q (zd_rf 1 x0 1) fun q2 =>
      zq_g (zq_k 1 q2 0) <|
      zq_g (zq_b x4 (zd_sh 1 q2).2) <|
      if (zs_i σ q2 (x4).toNatClampNeg) = x3 then (
        zf_MN_find_28 F (zf_MN_find_3 F n) x0 x1 x2 x3 x4 1 σ
      ) else (
        zf_MN_find_28 F (zf_MN_find_3 F n) x0 x1 x2 x3 x4 0 σ
      )
    )
def zf_MN_find (F : Nat) (x0 : Nat) (x1 : Nat) (x2 : Int32) (x3 : Int32) (σ : zs_S) : Option (Int32 × zs_S) :=
  zf_MN_find_3 F F x0 x1 x2 x3 0 σ
set_option maxHeartbeats 4000000 in
set_option maxRecDepth 100000 in
theorem zc_MN_find {l : Launch} {D : va_G} {cA : Nat → ClassId} {ad : Nat → Nat} {A : Nat → Prop} {F : Nat} {x0 : Nat} {x1 : Nat} {x2 : Int32} {x3 : Int32} {σ : zs_S} {q : Int32 × zs_S} (hJ : zs_J ad) (hf : zf_MN_find F x0 x1 x2 x3 σ = some q) : Met l y_MN_find (.code y_MN_find prog_14_method_2_code 7 (some .int) :: zd_ww) { frames := 0, cells := 0, slots := 0, locals := 0 } (va_Pc [.ref (ad x0), .ref (ad x1), .int x2, .int x3] (zs_U 1 D cA ad A σ)) (zs_Qi 1 D cA ad A q) 0 0 A := by
  refine Met.ofW (cc := prog_14_method_2_code) (maxL := 7) (ret := (some .int)) (by decide) rfl ?_
  intro p e s m args below meth c s₁ B hml hv
  obtain ⟨hargs, hP, hK, hD, hZ⟩ := hv
  have G : zs_G 1 p s m args c prog_14_method_2_code 7 "ScheduleCheckModel$Names" D cA ad A := ⟨⟨B.exec, B.bytes, hml, findClass_of_methodNamed B.named, fun w h => atoms_spec B.pre w (List.mem_cons_of_mem _ h)⟩, hK, hJ, hZ⟩
  have hw : zs_I 1 D cA ad A s σ s.heap [] := ⟨hP, hD, va_S.rf⟩
  have hx := G.1.1
  have hb := G.1.2.1
  have hown := G.1.2.2.2.1
  have hts := G.1.2.2.2.2
  have hr := B.returns
  have hlocks := B.notSynchronized
  have he : entryFrame m args 7 = F0 m 0 ((lg_sl [.ref (ad x0), .ref (ad x1), .int x2, .int x3] ++ List.replicate (7 - (lg_sl [.ref (ad x0), .ref (ad x1), .int x2, .int x3]).length) Slot.unset).toArray) [] := by rw [hargs]; exact lg_entry_eq m _ 7
  have hl := lv_entry [.ref (ad x0), .ref (ad x1), .int x2, .int x3] (n := 7) (Nat.le_of_ble_eq_true rfl)
  rw [he]
  generalize (lg_sl [.ref (ad x0), .ref (ad x1), .int x2, .int x3] ++ List.replicate (7 - (lg_sl [.ref (ad x0), .ref (ad x1), .int x2, .int x3]).length) Slot.unset).toArray = ls at hl
  have hl : lv_has ls 7 [(0, .ref (ad x0)), (1, .ref (ad x1)), (2, .int x2), (3, .int x3)] := hl
  obtain ⟨RR, hR⟩ : ∃ z, z = (headSpec (.code y_MN_find prog_14_method_2_code 7 (some .int) :: zd_ww) { frames := 0, cells := 0, slots := 0, locals := 0 }).room := ⟨_, rfl⟩
  rw [← hR]
  obtain ⟨QQ, hQ⟩ : ∃ z, z = MQ below (zs_Qi 1 D cA ad A q) args s 0 0 A := ⟨_, rfl⟩
  rw [← hQ]
  have hR1 : 0 ≤ RR.frames := by rw [hR]; exact Nat.le_refl _
  have hR2 : 0 ≤ RR.locals := by rw [hR]; exact Nat.le_refl _
  generalize s.heap = H at hw ⊢
  generalize ([] : List Loc) = locs at hw ⊢
  have K79 : ∀ (k3 : Nat → Nat → Int32 → Int32 → Int32 → zs_S → Option (Int32 × zs_S)) (hk3 : ∀ (x0 : Nat) (x1 : Nat) (x2 : Int32) (x3 : Int32) (x4 : Int32) (σ : zs_S) (H : Heap) (locs : List Loc) (ls : Array Slot), k3 x0 x1 x2 x3 x4 σ = some q → zs_I 1 D cA ad A s σ H locs → lv_has ls 7 [(0, .ref (ad x0)), (1, .ref (ad x1)), (2, .int x2), (3, .int x3), (4, .int x4)] → W p l e RR s m args below meth c H locs 0 0 QQ (F0 m 3 ls [])) (x0 : Nat) (x1 : Nat) (x2 : Int32) (x3 : Int32) (x4 : Int32) (x5 : Int32) (σ : zs_S) (H : Heap) (locs : List Loc) (ls : Array Slot), zf_MN_find_79 F k3 x0 x1 x2 x3 x4 x5 σ = some q → zs_I 1 D cA ad A s σ H locs → lv_has ls 7 [(0, .ref (ad x0)), (1, .ref (ad x1)), (2, .int x2), (3, .int x3), (4, .int x4), (5, .int x5)] → W p l e RR s m args below meth c H locs 0 0 QQ (F0 m 79 ls []) := by
    intro k3 hk3 x0 x1 x2 x3 x4 x5 σ H locs ls hf hw hl
    unfold zf_MN_find_79 at hf
    refine lv_iload hx hb d_MN_find_79 (lv_at hl 5 rfl) ?_
    refine lv_if_eq hx hb d_MN_find_81 (tgt := 87) rfl (fun hc => ?_) (fun hc => ?_)
    · have hf := (if_pos hc).symm.trans hf
      obtain ⟨v12, e_v12, hf⟩ := zq_ss hf
      refine lv_iinc (v := v12) hx hb d_MN_find_87 hl (k := 4) rfl (zq_inc (k := 1) (by decide) e_v12) (by decide) rfl (fun ls hl => ?_)
      have hl : lv_has ls 7 [(4, .int v12), (0, .ref (ad x0)), (1, .ref (ad x1)), (2, .int x2), (3, .int x3), (5, .int x5)] := hl
      refine lv_goto hx hb d_MN_find_90 (tgt := 3) rfl ?_
      exact hk3 x0 x1 x2 x3 v12 σ H locs ls hf hw (lv_sub hl [1, 2, 3, 4, 0] rfl)
    · have hf := (if_neg hc).symm.trans hf
      refine lv_iload hx hb d_MN_find_84 (lv_at hl 4 rfl) ?_
      exact zr_iret G hw hr hlocks hf hQ d_MN_find_86
  have K71 : ∀ (k3 : Nat → Nat → Int32 → Int32 → Int32 → zs_S → Option (Int32 × zs_S)) (hk3 : ∀ (x0 : Nat) (x1 : Nat) (x2 : Int32) (x3 : Int32) (x4 : Int32) (σ : zs_S) (H : Heap) (locs : List Loc) (ls : Array Slot), k3 x0 x1 x2 x3 x4 σ = some q → zs_I 1 D cA ad A s σ H locs → lv_has ls 7 [(0, .ref (ad x0)), (1, .ref (ad x1)), (2, .int x2), (3, .int x3), (4, .int x4)] → W p l e RR s m args below meth c H locs 0 0 QQ (F0 m 3 ls [])) (k33 : Nat → Nat → Int32 → Int32 → Int32 → Int32 → Int32 → zs_S → Option (Int32 × zs_S)) (hk33 : ∀ (x0 : Nat) (x1 : Nat) (x2 : Int32) (x3 : Int32) (x4 : Int32) (x5 : Int32) (x6 : Int32) (σ : zs_S) (H : Heap) (locs : List Loc) (ls : Array Slot), k33 x0 x1 x2 x3 x4 x5 x6 σ = some q → zs_I 1 D cA ad A s σ H locs → lv_has ls 7 [(0, .ref (ad x0)), (1, .ref (ad x1)), (2, .int x2), (3, .int x3), (4, .int x4), (5, .int x5), (6, .int x6)] → W p l e RR s m args below meth c H locs 0 0 QQ (F0 m 33 ls [])) (x0 : Nat) (x1 : Nat) (x2 : Int32) (x3 : Int32) (x4 : Int32) (x6 : Int32) (t0 : Int32) (σ : zs_S) (H : Heap) (locs : List Loc) (ls : Array Slot), zf_MN_find_71 F k3 k33 x0 x1 x2 x3 x4 x6 t0 σ = some q → zs_I 1 D cA ad A s σ H locs → lv_has ls 7 [(0, .ref (ad x0)), (1, .ref (ad x1)), (2, .int x2), (3, .int x3), (4, .int x4), (6, .int x6)] → W p l e RR s m args below meth c H locs 0 0 QQ (F0 m 71 ls [.int t0]) := by
    intro k3 hk3 k33 hk33 x0 x1 x2 x3 x4 x6 t0 σ H locs ls hf hw hl
    unfold zf_MN_find_71 at hf
    refine lv_istore hx hb d_MN_find_71 hl (by decide) rfl (fun ls hl => ?_)
    have hl : lv_has ls 7 [(5, .int t0), (0, .ref (ad x0)), (1, .ref (ad x1)), (2, .int x2), (3, .int x3), (4, .int x4), (6, .int x6)] := hl
    obtain ⟨v11, e_v11, hf⟩ := zq_ss hf
    refine lv_iinc (v := v11) hx hb d_MN_find_73 hl (k := 6) rfl (zq_inc (k := 1) (by decide) e_v11) (by decide) rfl (fun ls hl => ?_)
    have hl : lv_has ls 7 [(6, .int v11), (5, .int t0), (0, .ref (ad x0)), (1, .ref (ad x1)), (2, .int x2), (3, .int x3), (4, .int x4)] := hl
    refine lv_goto hx hb d_MN_find_76 (tgt := 33) rfl ?_
    exact hk33 x0 x1 x2 x3 x4 t0 v11 σ H locs ls hf hw (lv_sub hl [2, 3, 4, 5, 6, 1, 0] rfl)
  have K33 : ∀ (k3 : Nat → Nat → Int32 → Int32 → Int32 → zs_S → Option (Int32 × zs_S)) (hk3 : ∀ (x0 : Nat) (x1 : Nat) (x2 : Int32) (x3 : Int32) (x4 : Int32) (σ : zs_S) (H : Heap) (locs : List Loc) (ls : Array Slot), k3 x0 x1 x2 x3 x4 σ = some q → zs_I 1 D cA ad A s σ H locs → lv_has ls 7 [(0, .ref (ad x0)), (1, .ref (ad x1)), (2, .int x2), (3, .int x3), (4, .int x4)] → W p l e RR s m args below meth c H locs 0 0 QQ (F0 m 3 ls [])) (n : Nat) (x0 : Nat) (x1 : Nat) (x2 : Int32) (x3 : Int32) (x4 : Int32) (x5 : Int32) (x6 : Int32) (σ : zs_S) (H : Heap) (locs : List Loc) (ls : Array Slot), zf_MN_find_33 F k3 n x0 x1 x2 x3 x4 x5 x6 σ = some q → zs_I 1 D cA ad A s σ H locs → lv_has ls 7 [(0, .ref (ad x0)), (1, .ref (ad x1)), (2, .int x2), (3, .int x3), (4, .int x4), (5, .int x5), (6, .int x6)] → W p l e RR s m args below meth c H locs 0 0 QQ (F0 m 33 ls []) := by
    intro k3 hk3 n
    induction n with
    | zero => intro x0 x1 x2 x3 x4 x5 x6 σ H locs ls hf hw hl; exact nomatch (show (none : Option (Int32 × zs_S)) = some q from hf)
    | succ n ih =>
      intro x0 x1 x2 x3 x4 x5 x6 σ H locs ls hf hw hl
      rw [zf_MN_find_33] at hf
      refine lv_iload hx hb d_MN_find_33 (lv_at hl 6 rfl) ?_
      refine lv_iload_n hx hb d_MN_find_35 rfl (lv_at hl 3 rfl) ?_
      refine lv_icmp_ge hx hb d_MN_find_36 (tgt := 79) rfl (fun hc => ?_) (fun hc => ?_)
      · have hf := (if_pos hc).symm.trans hf
        exact K79 k3 hk3 x0 x1 x2 x3 x4 x5 σ H locs ls hf hw (lv_sub hl [0, 1, 2, 3, 4, 5] rfl)
      · have hf := (if_neg hc).symm.trans hf
        refine lv_iload hx hb d_MN_find_39 (lv_at hl 5 rfl) ?_
        refine lv_if_eq hx hb d_MN_find_41 (tgt := 79) rfl (fun hc => ?_) (fun hc => ?_)
        · have hf := (if_pos hc).symm.trans hf
          exact K79 k3 hk3 x0 x1 x2 x3 x4 x5 σ H locs ls hf hw (lv_sub hl [0, 1, 2, 3, 4, 5] rfl)
        · have hf := (if_neg hc).symm.trans hf
          refine lv_aload_n hx hb d_MN_find_44 rfl (lv_at hl 0 rfl) ?_
          obtain ⟨hs5, hf⟩ := zq_gs hf
          have hs5 := zq_ks hs5
          obtain ⟨q6, e_q6, h_q6, hf⟩ := zq_qs hf
          refine zr_get (ci := 10) G hw x0 0 zi_10 hs5 rfl rfl (by decide) zm_581 (fun _ h => h) (v := .ref (ad q6)) (zs_fs rfl e_q6 h_q6) d_MN_find_45 ?_
          refine lv_bipush (v := 8) hx hb d_MN_find_48 (by decide) ?_
          refine lv_iload hx hb d_MN_find_50 (lv_at hl 4 rfl) ?_
          refine lv_imul hx hb d_MN_find_52 ?_
          refine lv_iload hx hb d_MN_find_53 (lv_at hl 6 rfl) ?_
          refine lv_iadd hx hb d_MN_find_55 ?_
          obtain ⟨hs7, hf⟩ := zq_gs hf
          have hs7 := zq_ks hs7
          obtain ⟨hi8, hf⟩ := zq_gs hf
          refine zr_bald G hw q6 hs7 rfl hi8 d_MN_find_56 ?_
          refine lv_aload_n hx hb d_MN_find_57 rfl (lv_at hl 1 rfl) ?_
          refine lv_iload_n hx hb d_MN_find_58 rfl (lv_at hl 2 rfl) ?_
          refine lv_iload hx hb d_MN_find_59 (lv_at hl 6 rfl) ?_
          refine lv_iadd hx hb d_MN_find_61 ?_
          obtain ⟨hs9, hf⟩ := zq_gs hf
          have hs9 := zq_ks hs9
          obtain ⟨hi10, hf⟩ := zq_gs hf
          refine zr_bald G hw x1 hs9 rfl hi10 d_MN_find_62 ?_
          refine lv_icmp_ne hx hb d_MN_find_63 (tgt := 70) rfl (fun hc => ?_) (fun hc => ?_)
          · have hf := (if_neg hc).symm.trans hf
            refine lv_iconst (v := 0) hx hb d_MN_find_70 (by decide) ?_
            exact K71 k3 hk3 (zf_MN_find_33 F k3 n) ih x0 x1 x2 x3 x4 x6 0 σ H locs ls hf hw (lv_sub hl [0, 1, 2, 3, 4, 6] rfl)
          · have hf := (if_pos hc).symm.trans hf
            refine lv_iconst (v := 1) hx hb d_MN_find_66 (by decide) ?_
            refine lv_goto hx hb d_MN_find_67 (tgt := 71) rfl ?_
            exact K71 k3 hk3 (zf_MN_find_33 F k3 n) ih x0 x1 x2 x3 x4 x6 1 σ H locs ls hf hw (lv_sub hl [0, 1, 2, 3, 4, 6] rfl)
  have K28 : ∀ (k3 : Nat → Nat → Int32 → Int32 → Int32 → zs_S → Option (Int32 × zs_S)) (hk3 : ∀ (x0 : Nat) (x1 : Nat) (x2 : Int32) (x3 : Int32) (x4 : Int32) (σ : zs_S) (H : Heap) (locs : List Loc) (ls : Array Slot), k3 x0 x1 x2 x3 x4 σ = some q → zs_I 1 D cA ad A s σ H locs → lv_has ls 7 [(0, .ref (ad x0)), (1, .ref (ad x1)), (2, .int x2), (3, .int x3), (4, .int x4)] → W p l e RR s m args below meth c H locs 0 0 QQ (F0 m 3 ls [])) (x0 : Nat) (x1 : Nat) (x2 : Int32) (x3 : Int32) (x4 : Int32) (t0 : Int32) (σ : zs_S) (H : Heap) (locs : List Loc) (ls : Array Slot), zf_MN_find_28 F k3 x0 x1 x2 x3 x4 t0 σ = some q → zs_I 1 D cA ad A s σ H locs → lv_has ls 7 [(0, .ref (ad x0)), (1, .ref (ad x1)), (2, .int x2), (3, .int x3), (4, .int x4)] → W p l e RR s m args below meth c H locs 0 0 QQ (F0 m 28 ls [.int t0]) := by
    intro k3 hk3 x0 x1 x2 x3 x4 t0 σ H locs ls hf hw hl
    unfold zf_MN_find_28 at hf
    refine lv_istore hx hb d_MN_find_28 hl (by decide) rfl (fun ls hl => ?_)
    have hl : lv_has ls 7 [(5, .int t0), (0, .ref (ad x0)), (1, .ref (ad x1)), (2, .int x2), (3, .int x3), (4, .int x4)] := hl
    refine lv_iconst (v := 0) hx hb d_MN_find_30 (by decide) ?_
    refine lv_istore hx hb d_MN_find_31 hl (by decide) rfl (fun ls hl => ?_)
    have hl : lv_has ls 7 [(6, .int 0), (5, .int t0), (0, .ref (ad x0)), (1, .ref (ad x1)), (2, .int x2), (3, .int x3), (4, .int x4)] := hl
    exact K33 k3 hk3 F x0 x1 x2 x3 x4 t0 0 σ H locs ls hf hw (lv_sub hl [2, 3, 4, 5, 6, 1, 0] rfl)
  have K3 : ∀ (n : Nat) (x0 : Nat) (x1 : Nat) (x2 : Int32) (x3 : Int32) (x4 : Int32) (σ : zs_S) (H : Heap) (locs : List Loc) (ls : Array Slot), zf_MN_find_3 F n x0 x1 x2 x3 x4 σ = some q → zs_I 1 D cA ad A s σ H locs → lv_has ls 7 [(0, .ref (ad x0)), (1, .ref (ad x1)), (2, .int x2), (3, .int x3), (4, .int x4)] → W p l e RR s m args below meth c H locs 0 0 QQ (F0 m 3 ls []) := by
    intro  n
    induction n with
    | zero => intro x0 x1 x2 x3 x4 σ H locs ls hf hw hl; exact nomatch (show (none : Option (Int32 × zs_S)) = some q from hf)
    | succ n ih =>
      intro x0 x1 x2 x3 x4 σ H locs ls hf hw hl
      rw [zf_MN_find_3] at hf
      refine lv_iload hx hb d_MN_find_3 (lv_at hl 4 rfl) ?_
      refine lv_aload_n hx hb d_MN_find_5 rfl (lv_at hl 0 rfl) ?_
      obtain ⟨hs1, hf⟩ := zq_gs hf
      have hs1 := zq_ks hs1
      refine zr_get (ci := 10) G hw x0 2 zi_10 hs1 rfl rfl (by decide) zm_579 (fun _ h => h) (v := .int (zs_i σ x0 2)) rfl d_MN_find_6 ?_
      refine lv_icmp_ge hx hb d_MN_find_9 (tgt := 93) rfl (fun hc => ?_) (fun hc => ?_)
      · have hf := (if_pos hc).symm.trans hf
        refine lv_iconst (v := (-1)) hx hb d_MN_find_93 (by decide) ?_
        exact zr_iret G hw hr hlocks hf hQ d_MN_find_94
      · have hf := (if_neg hc).symm.trans hf
        refine lv_aload_n hx hb d_MN_find_12 rfl (lv_at hl 0 rfl) ?_
        obtain ⟨q2, e_q2, h_q2, hf⟩ := zq_qs hf
        refine zr_get (ci := 10) G hw x0 1 zi_10 hs1 rfl rfl (by decide) zm_580 (fun _ h => h) (v := .ref (ad q2)) (zs_fs rfl e_q2 h_q2) d_MN_find_13 ?_
        refine lv_iload hx hb d_MN_find_16 (lv_at hl 4 rfl) ?_
        obtain ⟨hs3, hf⟩ := zq_gs hf
        have hs3 := zq_ks hs3
        obtain ⟨hi4, hf⟩ := zq_gs hf
        refine zr_iald G hw q2 hs3 rfl hi4 d_MN_find_18 ?_
        refine lv_iload_n hx hb d_MN_find_19 rfl (lv_at hl 3 rfl) ?_
        refine lv_icmp_ne hx hb d_MN_find_20 (tgt := 27) rfl (fun hc => ?_) (fun hc => ?_)
        · have hf := (if_neg hc).symm.trans hf
          refine lv_iconst (v := 0) hx hb d_MN_find_27 (by decide) ?_
          exact K28 (zf_MN_find_3 F n) ih x0 x1 x2 x3 x4 0 σ H locs ls hf hw (lv_sub hl [0, 1, 2, 3, 4] rfl)
        · have hf := (if_pos hc).symm.trans hf
          refine lv_iconst (v := 1) hx hb d_MN_find_23 (by decide) ?_
          refine lv_goto hx hb d_MN_find_24 (tgt := 28) rfl ?_
          exact K28 (zf_MN_find_3 F n) ih x0 x1 x2 x3 x4 1 σ H locs ls hf hw (lv_sub hl [0, 1, 2, 3, 4] rfl)
  unfold zf_MN_find at hf
  refine lv_iconst (v := 0) hx hb d_MN_find_0 (by decide) ?_
  refine lv_istore hx hb d_MN_find_1 hl (by decide) rfl (fun ls hl => ?_)
  have hl : lv_has ls 7 [(4, .int 0), (0, .ref (ad x0)), (1, .ref (ad x1)), (2, .int x2), (3, .int x3)] := hl
  exact K3 F x0 x1 x2 x3 0 σ H locs ls hf hw (lv_sub hl [1, 2, 3, 4, 0] rfl)
/-! ScheduleCheckModel$Names.add -/
def y_MN_add : MethodName := ⟨"ScheduleCheckModel$Names","add","([BII)V"⟩
theorem d_MN_add_0 : decode prog_14_method_3_code 0 = .ok (.aload_n 0, 1) := by decide +kernel
theorem d_MN_add_1 : decode prog_14_method_3_code 1 = .ok (.getfield 15, 3) := by decide +kernel
theorem d_MN_add_4 : decode prog_14_method_3_code 4 = .ok (.aload_n 0, 1) := by decide +kernel
theorem d_MN_add_5 : decode prog_14_method_3_code 5 = .ok (.getfield 19, 3) := by decide +kernel
theorem d_MN_add_8 : decode prog_14_method_3_code 8 = .ok (.iload_n 3, 1) := by decide +kernel
theorem d_MN_add_9 : decode prog_14_method_3_code 9 = .ok (.iastore, 1) := by decide +kernel
theorem d_MN_add_10 : decode prog_14_method_3_code 10 = .ok (.aload_n 1, 1) := by decide +kernel
theorem d_MN_add_11 : decode prog_14_method_3_code 11 = .ok (.iload_n 2, 1) := by decide +kernel
theorem d_MN_add_12 : decode prog_14_method_3_code 12 = .ok (.aload_n 0, 1) := by decide +kernel
theorem d_MN_add_13 : decode prog_14_method_3_code 13 = .ok (.getfield 9, 3) := by decide +kernel
theorem d_MN_add_16 : decode prog_14_method_3_code 16 = .ok (.bipush 8, 2) := by decide +kernel
theorem d_MN_add_18 : decode prog_14_method_3_code 18 = .ok (.aload_n 0, 1) := by decide +kernel
theorem d_MN_add_19 : decode prog_14_method_3_code 19 = .ok (.getfield 19, 3) := by decide +kernel
theorem d_MN_add_22 : decode prog_14_method_3_code 22 = .ok (.imul, 1) := by decide +kernel
theorem d_MN_add_23 : decode prog_14_method_3_code 23 = .ok (.iload_n 3, 1) := by decide +kernel
theorem d_MN_add_24 : decode prog_14_method_3_code 24 = .ok (.invokestatic 23, 3) := by decide +kernel
theorem d_MN_add_27 : decode prog_14_method_3_code 27 = .ok (.aload_n 0, 1) := by decide +kernel
theorem d_MN_add_28 : decode prog_14_method_3_code 28 = .ok (.dup, 1) := by decide +kernel
theorem d_MN_add_29 : decode prog_14_method_3_code 29 = .ok (.getfield 19, 3) := by decide +kernel
theorem d_MN_add_32 : decode prog_14_method_3_code 32 = .ok (.iconst 1, 1) := by decide +kernel
theorem d_MN_add_33 : decode prog_14_method_3_code 33 = .ok (.iadd, 1) := by decide +kernel
theorem d_MN_add_34 : decode prog_14_method_3_code 34 = .ok (.putfield 19, 3) := by decide +kernel
theorem d_MN_add_37 : decode prog_14_method_3_code 37 = .ok (.return_, 1) := by decide +kernel
def zf_MN_add (F : Nat) (x0 : Nat) (x1 : Nat) (x2 : Int32) (x3 : Int32) (σ : zs_S) : Option (zs_S) :=
  zq_g (zq_k 1 x0 20) <|
  zq_q (zd_rf 1 x0 1) fun q2 =>
  zq_g (zq_k 1 q2 0) <|
  zq_g (zq_b (zs_i σ x0 2) (zd_sh 1 q2).2) <|
  zq_v (zs_wi σ q2 ((zs_i σ x0 2).toNatClampNeg) x3) fun σ5 =>
  zq_q (zd_rf 1 x0 0) fun q6 =>
  zq_g (zq_k 1 x1 1) <|
  zq_g (zq_k 1 q6 1) <|
  zq_g (zq_cp 1 σ5 x1 x2 (8 * (zs_i σ5 x0 2)) x3 (zd_sh 1 x1).2 (zd_sh 1 q6).2) <|
  zq_v (zs_cp σ5 x1 q6 (x2 : Int32).toNatClampNeg (8 * (zs_i σ5 x0 2) : Int32).toNatClampNeg (x3 : Int32).toNatClampNeg) fun σ10 =>
  zq_v (zs_wi σ10 x0 2 ((zs_i σ10 x0 2) + 1)) fun σ11 =>
  some σ11
set_option maxHeartbeats 4000000 in
set_option maxRecDepth 100000 in
theorem zc_MN_add {l : Launch} {D : va_G} {cA : Nat → ClassId} {ad : Nat → Nat} {A : Nat → Prop} {F : Nat} {x0 : Nat} {x1 : Nat} {x2 : Int32} {x3 : Int32} {σ : zs_S} {q : zs_S} (hJ : zs_J ad) (hf : zf_MN_add F x0 x1 x2 x3 σ = some q) : Met l y_MN_add (.code y_MN_add prog_14_method_3_code 4 none :: zd_ww) { frames := 1, cells := 0, slots := 0, locals := 60 } (va_Pc [.ref (ad x0), .ref (ad x1), .int x2, .int x3] (zs_U 1 D cA ad A σ)) (zs_Qv 1 D cA ad A q) 0 0 A := by
  refine Met.ofW (cc := prog_14_method_3_code) (maxL := 4) (ret := none) (by decide) rfl ?_
  intro p e s m args below meth c s₁ B hml hv
  obtain ⟨hargs, hP, hK, hD, hZ⟩ := hv
  have G : zs_G 1 p s m args c prog_14_method_3_code 4 "ScheduleCheckModel$Names" D cA ad A := ⟨⟨B.exec, B.bytes, hml, findClass_of_methodNamed B.named, fun w h => atoms_spec B.pre w (List.mem_cons_of_mem _ h)⟩, hK, hJ, hZ⟩
  have hw : zs_I 1 D cA ad A s σ s.heap [] := ⟨hP, hD, va_S.rf⟩
  have hx := G.1.1
  have hb := G.1.2.1
  have hown := G.1.2.2.2.1
  have hts := G.1.2.2.2.2
  have hr := B.returns
  have hlocks := B.notSynchronized
  have he : entryFrame m args 4 = F0 m 0 ((lg_sl [.ref (ad x0), .ref (ad x1), .int x2, .int x3] ++ List.replicate (4 - (lg_sl [.ref (ad x0), .ref (ad x1), .int x2, .int x3]).length) Slot.unset).toArray) [] := by rw [hargs]; exact lg_entry_eq m _ 4
  have hl := lv_entry [.ref (ad x0), .ref (ad x1), .int x2, .int x3] (n := 4) (Nat.le_of_ble_eq_true rfl)
  rw [he]
  generalize (lg_sl [.ref (ad x0), .ref (ad x1), .int x2, .int x3] ++ List.replicate (4 - (lg_sl [.ref (ad x0), .ref (ad x1), .int x2, .int x3]).length) Slot.unset).toArray = ls at hl
  have hl : lv_has ls 4 [(0, .ref (ad x0)), (1, .ref (ad x1)), (2, .int x2), (3, .int x3)] := hl
  obtain ⟨RR, hR⟩ : ∃ z, z = (headSpec (.code y_MN_add prog_14_method_3_code 4 none :: zd_ww) { frames := 1, cells := 0, slots := 0, locals := 60 }).room := ⟨_, rfl⟩
  rw [← hR]
  obtain ⟨QQ, hQ⟩ : ∃ z, z = MQ below (zs_Qv 1 D cA ad A q) args s 0 0 A := ⟨_, rfl⟩
  rw [← hQ]
  have hR1 : 1 ≤ RR.frames := by rw [hR]; exact Nat.le_refl _
  have hR2 : 60 ≤ RR.locals := by rw [hR]; exact Nat.le_refl _
  generalize s.heap = H at hw ⊢
  generalize ([] : List Loc) = locs at hw ⊢
  unfold zf_MN_add at hf
  refine lv_aload_n hx hb d_MN_add_0 rfl (lv_at hl 0 rfl) ?_
  obtain ⟨hs1, hf⟩ := zq_gs hf
  have hs1 := zq_ks hs1
  obtain ⟨q2, e_q2, h_q2, hf⟩ := zq_qs hf
  refine zr_get (ci := 10) G hw x0 1 zi_10 hs1 rfl rfl (by decide) zm_580 (fun _ h => h) (v := .ref (ad q2)) (zs_fs rfl e_q2 h_q2) d_MN_add_1 ?_
  refine lv_aload_n hx hb d_MN_add_4 rfl (lv_at hl 0 rfl) ?_
  refine zr_get (ci := 10) G hw x0 2 zi_10 hs1 rfl rfl (by decide) zm_579 (fun _ h => h) (v := .int (zs_i σ x0 2)) rfl d_MN_add_5 ?_
  refine lv_iload_n hx hb d_MN_add_8 rfl (lv_at hl 3 rfl) ?_
  obtain ⟨hs3, hf⟩ := zq_gs hf
  have hs3 := zq_ks hs3
  obtain ⟨hi4, hf⟩ := zq_gs hf
  obtain ⟨σ5, e_σ5, hf⟩ := zq_ss hf
  refine zr_iast G hw q2 hs3 rfl hi4 d_MN_add_9 (fun H locs hw => ?_)
  rw [← e_σ5] at hw
  refine lv_aload_n hx hb d_MN_add_10 rfl (lv_at hl 1 rfl) ?_
  refine lv_iload_n hx hb d_MN_add_11 rfl (lv_at hl 2 rfl) ?_
  refine lv_aload_n hx hb d_MN_add_12 rfl (lv_at hl 0 rfl) ?_
  obtain ⟨q6, e_q6, h_q6, hf⟩ := zq_qs hf
  refine zr_get (ci := 10) G hw x0 0 zi_10 hs1 rfl rfl (by decide) zm_581 (fun _ h => h) (v := .ref (ad q6)) (zs_fs rfl e_q6 h_q6) d_MN_add_13 ?_
  refine lv_bipush (v := 8) hx hb d_MN_add_16 (by decide) ?_
  refine lv_aload_n hx hb d_MN_add_18 rfl (lv_at hl 0 rfl) ?_
  refine zr_get (ci := 10) G hw x0 2 zi_10 hs1 rfl rfl (by decide) zm_579 (fun _ h => h) (v := .int (zs_i σ5 x0 2)) rfl d_MN_add_19 ?_
  refine lv_imul hx hb d_MN_add_22 ?_
  refine lv_iload_n hx hb d_MN_add_23 rfl (lv_at hl 3 rfl) ?_
  obtain ⟨hs7, hf⟩ := zq_gs hf
  have hs7 := zq_ks hs7
  obtain ⟨hs8, hf⟩ := zq_gs hf
  have hs8 := zq_ks hs8
  obtain ⟨hk9, hf⟩ := zq_gs hf
  obtain ⟨σ10, e_σ10, hf⟩ := zq_ss hf
  refine zr_copy (rest := []) G hw x1 q6 hs7 hs8 rfl rfl (by decide) hk9 hl.1 zm_582 zm_26 zm_27 zm_28 (Nat.le_trans (by decide) hR1) (Nat.le_trans (Nat.le_of_ble_eq_true rfl) hR2) d_MN_add_24 (fun H locs hw => ?_)
  rw [← e_σ10] at hw
  refine lv_aload_n hx hb d_MN_add_27 rfl (lv_at hl 0 rfl) ?_
  refine lv_dup hx hb d_MN_add_28 rfl ?_
  refine zr_get (ci := 10) G hw x0 2 zi_10 hs1 rfl rfl (by decide) zm_579 (fun _ h => h) (v := .int (zs_i σ10 x0 2)) rfl d_MN_add_29 ?_
  refine lv_iconst (v := 1) hx hb d_MN_add_32 (by decide) ?_
  refine lv_iadd hx hb d_MN_add_33 ?_
  obtain ⟨σ11, e_σ11, hf⟩ := zq_ss hf
  refine zr_puti (ci := 10) G hw x0 2 zi_10 t_zd10 t_zd10_ok n_zd10 hs1 rfl rfl (by decide) rfl zm_579 (fun _ h => h) rfl (x := ((zs_i σ10 x0 2) + 1)) (t_zd10_ok 2 (by decide)) rfl rfl d_MN_add_34 (fun H locs hw => ?_)
  rw [← e_σ11] at hw
  exact zr_vret G hw hr hlocks hf hQ d_MN_add_37
/-! ScheduleCheckModel.put -/
def y_M_put : MethodName := ⟨"ScheduleCheckModel","put","(I)V"⟩
theorem d_M_put_0 : decode prog_13_method_19_code 0 = .ok (.aload_n 0, 1) := by decide +kernel
theorem d_M_put_1 : decode prog_13_method_19_code 1 = .ok (.getfield 149, 3) := by decide +kernel
theorem d_M_put_4 : decode prog_13_method_19_code 4 = .ok (.getfield 247, 3) := by decide +kernel
theorem d_M_put_7 : decode prog_13_method_19_code 7 = .ok (.aload_n 0, 1) := by decide +kernel
theorem d_M_put_8 : decode prog_13_method_19_code 8 = .ok (.getfield 149, 3) := by decide +kernel
theorem d_M_put_11 : decode prog_13_method_19_code 11 = .ok (.getfield 170, 3) := by decide +kernel
theorem d_M_put_14 : decode prog_13_method_19_code 14 = .ok (.iload_n 1, 1) := by decide +kernel
theorem d_M_put_15 : decode prog_13_method_19_code 15 = .ok (.iastore, 1) := by decide +kernel
theorem d_M_put_16 : decode prog_13_method_19_code 16 = .ok (.aload_n 0, 1) := by decide +kernel
theorem d_M_put_17 : decode prog_13_method_19_code 17 = .ok (.getfield 149, 3) := by decide +kernel
theorem d_M_put_20 : decode prog_13_method_19_code 20 = .ok (.dup, 1) := by decide +kernel
theorem d_M_put_21 : decode prog_13_method_19_code 21 = .ok (.getfield 170, 3) := by decide +kernel
theorem d_M_put_24 : decode prog_13_method_19_code 24 = .ok (.iconst 1, 1) := by decide +kernel
theorem d_M_put_25 : decode prog_13_method_19_code 25 = .ok (.iadd, 1) := by decide +kernel
theorem d_M_put_26 : decode prog_13_method_19_code 26 = .ok (.putfield 170, 3) := by decide +kernel
theorem d_M_put_29 : decode prog_13_method_19_code 29 = .ok (.return_, 1) := by decide +kernel
def zf_M_put (F : Nat) (x1 : Int32) (σ : zs_S) : Option (zs_S) :=
  zq_q (zs_r σ 1 12) fun q1 =>
  zq_g (zq_k 1 q1 19) <|
  zq_q (zd_rf 1 q1 11) fun q3 =>
  zq_q (zs_r σ 1 12) fun q4 =>
  zq_g (zq_k 1 q4 19) <|
  zq_g (zq_k 1 q3 0) <|
  zq_g (zq_b (zs_i σ q4 12) (zd_sh 1 q3).2) <|
  zq_v (zs_wi σ q3 ((zs_i σ q4 12).toNatClampNeg) x1) fun σ8 =>
  zq_q (zs_r σ8 1 12) fun q9 =>
  zq_g (zq_k 1 q9 19) <|
  zq_v (zs_wi σ8 q9 12 ((zs_i σ8 q9 12) + 1)) fun σ11 =>
  some σ11
set_option maxHeartbeats 4000000 in
set_option maxRecDepth 100000 in
theorem zc_M_put {l : Launch} {D : va_G} {cA : Nat → ClassId} {ad : Nat → Nat} {A : Nat → Prop} {F : Nat} {x1 : Int32} {σ : zs_S} {q : zs_S} (hJ : zs_J ad) (hf : zf_M_put F x1 σ = some q) : Met l y_M_put (.code y_M_put prog_13_method_19_code 2 none :: zd_ww) { frames := 0, cells := 0, slots := 0, locals := 0 } (va_Pc [.ref (ad 1), .int x1] (zs_U 1 D cA ad A σ)) (zs_Qv 1 D cA ad A q) 0 0 A := by
  refine Met.ofW (cc := prog_13_method_19_code) (maxL := 2) (ret := none) (by decide) rfl ?_
  intro p e s m args below meth c s₁ B hml hv
  obtain ⟨hargs, hP, hK, hD, hZ⟩ := hv
  have G : zs_G 1 p s m args c prog_13_method_19_code 2 "ScheduleCheckModel" D cA ad A := ⟨⟨B.exec, B.bytes, hml, findClass_of_methodNamed B.named, fun w h => atoms_spec B.pre w (List.mem_cons_of_mem _ h)⟩, hK, hJ, hZ⟩
  have hw : zs_I 1 D cA ad A s σ s.heap [] := ⟨hP, hD, va_S.rf⟩
  have hx := G.1.1
  have hb := G.1.2.1
  have hown := G.1.2.2.2.1
  have hts := G.1.2.2.2.2
  have hr := B.returns
  have hlocks := B.notSynchronized
  have he : entryFrame m args 2 = F0 m 0 ((lg_sl [.ref (ad 1), .int x1] ++ List.replicate (2 - (lg_sl [.ref (ad 1), .int x1]).length) Slot.unset).toArray) [] := by rw [hargs]; exact lg_entry_eq m _ 2
  have hl := lv_entry [.ref (ad 1), .int x1] (n := 2) (Nat.le_of_ble_eq_true rfl)
  rw [he]
  generalize (lg_sl [.ref (ad 1), .int x1] ++ List.replicate (2 - (lg_sl [.ref (ad 1), .int x1]).length) Slot.unset).toArray = ls at hl
  have hl : lv_has ls 2 [(0, .ref (ad 1)), (1, .int x1)] := hl
  obtain ⟨RR, hR⟩ : ∃ z, z = (headSpec (.code y_M_put prog_13_method_19_code 2 none :: zd_ww) { frames := 0, cells := 0, slots := 0, locals := 0 }).room := ⟨_, rfl⟩
  rw [← hR]
  obtain ⟨QQ, hQ⟩ : ∃ z, z = MQ below (zs_Qv 1 D cA ad A q) args s 0 0 A := ⟨_, rfl⟩
  rw [← hQ]
  have hR1 : 0 ≤ RR.frames := by rw [hR]; exact Nat.le_refl _
  have hR2 : 0 ≤ RR.locals := by rw [hR]; exact Nat.le_refl _
  generalize s.heap = H at hw ⊢
  generalize ([] : List Loc) = locs at hw ⊢
  unfold zf_M_put at hf
  refine lv_aload_n hx hb d_M_put_0 rfl (lv_at hl 0 rfl) ?_
  obtain ⟨q1, e_q1, h_q1, hf⟩ := zq_qs hf
  refine zr_get (ci := 8) G hw 1 12 zi_8 rfl rfl rfl (by decide) zm_583 (fun _ h => h) (v := .ref (ad q1)) (zs_fr rfl e_q1 h_q1) d_M_put_1 ?_
  obtain ⟨hs2, hf⟩ := zq_gs hf
  have hs2 := zq_ks hs2
  obtain ⟨q3, e_q3, h_q3, hf⟩ := zq_qs hf
  refine zr_get (ci := 9) G hw q1 11 zi_9 hs2 rfl rfl (by decide) zm_584 (fun _ h => h) (v := .ref (ad q3)) (zs_fs rfl e_q3 h_q3) d_M_put_4 ?_
  refine lv_aload_n hx hb d_M_put_7 rfl (lv_at hl 0 rfl) ?_
  obtain ⟨q4, e_q4, h_q4, hf⟩ := zq_qs hf
  refine zr_get (ci := 8) G hw 1 12 zi_8 rfl rfl rfl (by decide) zm_583 (fun _ h => h) (v := .ref (ad q4)) (zs_fr rfl e_q4 h_q4) d_M_put_8 ?_
  obtain ⟨hs5, hf⟩ := zq_gs hf
  have hs5 := zq_ks hs5
  refine zr_get (ci := 9) G hw q4 12 zi_9 hs5 rfl rfl (by decide) zm_585 (fun _ h => h) (v := .int (zs_i σ q4 12)) rfl d_M_put_11 ?_
  refine lv_iload_n hx hb d_M_put_14 rfl (lv_at hl 1 rfl) ?_
  obtain ⟨hs6, hf⟩ := zq_gs hf
  have hs6 := zq_ks hs6
  obtain ⟨hi7, hf⟩ := zq_gs hf
  obtain ⟨σ8, e_σ8, hf⟩ := zq_ss hf
  refine zr_iast G hw q3 hs6 rfl hi7 d_M_put_15 (fun H locs hw => ?_)
  rw [← e_σ8] at hw
  refine lv_aload_n hx hb d_M_put_16 rfl (lv_at hl 0 rfl) ?_
  obtain ⟨q9, e_q9, h_q9, hf⟩ := zq_qs hf
  refine zr_get (ci := 8) G hw 1 12 zi_8 rfl rfl rfl (by decide) zm_583 (fun _ h => h) (v := .ref (ad q9)) (zs_fr rfl e_q9 h_q9) d_M_put_17 ?_
  refine lv_dup hx hb d_M_put_20 rfl ?_
  obtain ⟨hs10, hf⟩ := zq_gs hf
  have hs10 := zq_ks hs10
  refine zr_get (ci := 9) G hw q9 12 zi_9 hs10 rfl rfl (by decide) zm_585 (fun _ h => h) (v := .int (zs_i σ8 q9 12)) rfl d_M_put_21 ?_
  refine lv_iconst (v := 1) hx hb d_M_put_24 (by decide) ?_
  refine lv_iadd hx hb d_M_put_25 ?_
  obtain ⟨σ11, e_σ11, hf⟩ := zq_ss hf
  refine zr_puti (ci := 9) G hw q9 12 zi_9 t_zd9 t_zd9_ok n_zd9 hs10 rfl rfl (by decide) rfl zm_585 (fun _ h => h) rfl (x := ((zs_i σ8 q9 12) + 1)) (t_zd9_ok 12 (by decide)) rfl rfl d_M_put_26 (fun H locs hw => ?_)
  rw [← e_σ11] at hw
  exact zr_vret G hw hr hlocks hf hQ d_M_put_29
/-! ScheduleCheckModel.lead -/
def y_M_lead : MethodName := ⟨"ScheduleCheckModel","lead","(II)V"⟩
theorem d_M_lead_0 : decode prog_13_method_15_code 0 = .ok (.aload_n 0, 1) := by decide +kernel
theorem d_M_lead_1 : decode prog_13_method_15_code 1 = .ok (.getfield 174, 3) := by decide +kernel
theorem d_M_lead_4 : decode prog_13_method_15_code 4 = .ok (.iload_n 1, 1) := by decide +kernel
theorem d_M_lead_5 : decode prog_13_method_15_code 5 = .ok (.if_icmp .le 69, 3) := by decide +kernel
theorem d_M_lead_8 : decode prog_13_method_15_code 8 = .ok (.aload_n 0, 1) := by decide +kernel
theorem d_M_lead_9 : decode prog_13_method_15_code 9 = .ok (.dup, 1) := by decide +kernel
theorem d_M_lead_10 : decode prog_13_method_15_code 10 = .ok (.getfield 174, 3) := by decide +kernel
theorem d_M_lead_13 : decode prog_13_method_15_code 13 = .ok (.iconst 1, 1) := by decide +kernel
theorem d_M_lead_14 : decode prog_13_method_15_code 14 = .ok (.isub, 1) := by decide +kernel
theorem d_M_lead_15 : decode prog_13_method_15_code 15 = .ok (.putfield 174, 3) := by decide +kernel
theorem d_M_lead_18 : decode prog_13_method_15_code 18 = .ok (.aload_n 0, 1) := by decide +kernel
theorem d_M_lead_19 : decode prog_13_method_15_code 19 = .ok (.getfield 23, 3) := by decide +kernel
theorem d_M_lead_22 : decode prog_13_method_15_code 22 = .ok (.aload_n 0, 1) := by decide +kernel
theorem d_M_lead_23 : decode prog_13_method_15_code 23 = .ok (.getfield 174, 3) := by decide +kernel
theorem d_M_lead_26 : decode prog_13_method_15_code 26 = .ok (.iaload, 1) := by decide +kernel
theorem d_M_lead_27 : decode prog_13_method_15_code 27 = .ok (.ifCond .ge 26, 3) := by decide +kernel
theorem d_M_lead_30 : decode prog_13_method_15_code 30 = .ok (.aload_n 0, 1) := by decide +kernel
theorem d_M_lead_31 : decode prog_13_method_15_code 31 = .ok (.getfield 149, 3) := by decide +kernel
theorem d_M_lead_34 : decode prog_13_method_15_code 34 = .ok (.getfield 222, 3) := by decide +kernel
theorem d_M_lead_37 : decode prog_13_method_15_code 37 = .ok (.iconst (-1), 1) := by decide +kernel
theorem d_M_lead_38 : decode prog_13_method_15_code 38 = .ok (.aload_n 0, 1) := by decide +kernel
theorem d_M_lead_39 : decode prog_13_method_15_code 39 = .ok (.getfield 23, 3) := by decide +kernel
theorem d_M_lead_42 : decode prog_13_method_15_code 42 = .ok (.aload_n 0, 1) := by decide +kernel
theorem d_M_lead_43 : decode prog_13_method_15_code 43 = .ok (.getfield 174, 3) := by decide +kernel
theorem d_M_lead_46 : decode prog_13_method_15_code 46 = .ok (.iaload, 1) := by decide +kernel
theorem d_M_lead_47 : decode prog_13_method_15_code 47 = .ok (.isub, 1) := by decide +kernel
theorem d_M_lead_48 : decode prog_13_method_15_code 48 = .ok (.iload_n 2, 1) := by decide +kernel
theorem d_M_lead_49 : decode prog_13_method_15_code 49 = .ok (.iastore, 1) := by decide +kernel
theorem d_M_lead_50 : decode prog_13_method_15_code 50 = .ok (.goto (-50), 3) := by decide +kernel
theorem d_M_lead_53 : decode prog_13_method_15_code 53 = .ok (.aload_n 0, 1) := by decide +kernel
theorem d_M_lead_54 : decode prog_13_method_15_code 54 = .ok (.getfield 149, 3) := by decide +kernel
theorem d_M_lead_57 : decode prog_13_method_15_code 57 = .ok (.getfield 225, 3) := by decide +kernel
theorem d_M_lead_60 : decode prog_13_method_15_code 60 = .ok (.aload_n 0, 1) := by decide +kernel
theorem d_M_lead_61 : decode prog_13_method_15_code 61 = .ok (.getfield 23, 3) := by decide +kernel
theorem d_M_lead_64 : decode prog_13_method_15_code 64 = .ok (.aload_n 0, 1) := by decide +kernel
theorem d_M_lead_65 : decode prog_13_method_15_code 65 = .ok (.getfield 174, 3) := by decide +kernel
theorem d_M_lead_68 : decode prog_13_method_15_code 68 = .ok (.iaload, 1) := by decide +kernel
theorem d_M_lead_69 : decode prog_13_method_15_code 69 = .ok (.iload_n 2, 1) := by decide +kernel
theorem d_M_lead_70 : decode prog_13_method_15_code 70 = .ok (.iastore, 1) := by decide +kernel
theorem d_M_lead_71 : decode prog_13_method_15_code 71 = .ok (.goto (-71), 3) := by decide +kernel
theorem d_M_lead_74 : decode prog_13_method_15_code 74 = .ok (.return_, 1) := by decide +kernel
def zf_M_lead_0 (F : Nat)  : Nat → Int32 → Int32 → zs_S → Option (zs_S)
  | 0, _, _, _ => none
  | n + 1, x1, x2, σ =>
    if (zs_i σ 1 16) ≤ x1 then (
      some σ
    ) else (
      zq_v (zs_wi σ 1 16 ((zs_i σ 1 16) - 1)) fun σ1 =>
      zq_g (zq_b (zs_i σ1 1 16) 200) <|
      if 0 ≤ (zs_i σ1 57 (zs_i σ1 1 16).toNatClampNeg) then (
        zq_q (zs_r σ1 1 12) fun q3 =>
        zq_g (zq_k 1 q3 19) <|
        zq_q (zd_rf 1 q3 10) fun q5 =>
        zq_g (zq_b (zs_i σ1 1 16) 200) <|
        zq_g (zq_k 1 q5 0) <|
        zq_g (zq_b (zs_i σ1 57 (zs_i σ1 1 16).toNatClampNeg) (zd_sh 1 q5).2) <|
        zq_v (zs_wi σ1 q5 ((zs_i σ1 57 (zs_i σ1 1 16).toNatClampNeg).toNatClampNeg) x2) fun σ9 =>
        (zf_M_lead_0 F n) x1 x2 σ9
      ) else (
        zq_q (zs_r σ1 1 12) fun q10 =>
        zq_g (zq_k 1 q10 19) <|
        zq_q (zd_rf 1 q10 4) fun q12 =>
        zq_g (zq_b (zs_i σ1 1 16) 200) <|
        zq_g (zq_k 1 q12 0) <|
        zq_g (zq_b (((-1)) - (zs_i σ1 57 (zs_i σ1 1 16).toNatClampNeg)) (zd_sh 1 q12).2) <|
        zq_v (zs_wi σ1 q12 ((((-1)) - (zs_i σ1 57 (zs_i σ1 1 16).toNatClampNeg)).toNatClampNeg) x2) fun σ16 =>
        (zf_M_lead_0 F n) x1 x2 σ16
      )
    )
def zf_M_lead (F : Nat) (x1 : Int32) (x2 : Int32) (σ : zs_S) : Option (zs_S) :=
  zf_M_lead_0 F F x1 x2 σ
set_option maxHeartbeats 4000000 in
set_option maxRecDepth 100000 in
theorem zc_M_lead {l : Launch} {D : va_G} {cA : Nat → ClassId} {ad : Nat → Nat} {A : Nat → Prop} {F : Nat} {x1 : Int32} {x2 : Int32} {σ : zs_S} {q : zs_S} (hJ : zs_J ad) (hf : zf_M_lead F x1 x2 σ = some q) : Met l y_M_lead (.code y_M_lead prog_13_method_15_code 3 none :: zd_ww) { frames := 0, cells := 0, slots := 0, locals := 0 } (va_Pc [.ref (ad 1), .int x1, .int x2] (zs_U 1 D cA ad A σ)) (zs_Qv 1 D cA ad A q) 0 0 A := by
  refine Met.ofW (cc := prog_13_method_15_code) (maxL := 3) (ret := none) (by decide) rfl ?_
  intro p e s m args below meth c s₁ B hml hv
  obtain ⟨hargs, hP, hK, hD, hZ⟩ := hv
  have G : zs_G 1 p s m args c prog_13_method_15_code 3 "ScheduleCheckModel" D cA ad A := ⟨⟨B.exec, B.bytes, hml, findClass_of_methodNamed B.named, fun w h => atoms_spec B.pre w (List.mem_cons_of_mem _ h)⟩, hK, hJ, hZ⟩
  have hw : zs_I 1 D cA ad A s σ s.heap [] := ⟨hP, hD, va_S.rf⟩
  have hx := G.1.1
  have hb := G.1.2.1
  have hown := G.1.2.2.2.1
  have hts := G.1.2.2.2.2
  have hr := B.returns
  have hlocks := B.notSynchronized
  have he : entryFrame m args 3 = F0 m 0 ((lg_sl [.ref (ad 1), .int x1, .int x2] ++ List.replicate (3 - (lg_sl [.ref (ad 1), .int x1, .int x2]).length) Slot.unset).toArray) [] := by rw [hargs]; exact lg_entry_eq m _ 3
  have hl := lv_entry [.ref (ad 1), .int x1, .int x2] (n := 3) (Nat.le_of_ble_eq_true rfl)
  rw [he]
  generalize (lg_sl [.ref (ad 1), .int x1, .int x2] ++ List.replicate (3 - (lg_sl [.ref (ad 1), .int x1, .int x2]).length) Slot.unset).toArray = ls at hl
  have hl : lv_has ls 3 [(0, .ref (ad 1)), (1, .int x1), (2, .int x2)] := hl
  obtain ⟨RR, hR⟩ : ∃ z, z = (headSpec (.code y_M_lead prog_13_method_15_code 3 none :: zd_ww) { frames := 0, cells := 0, slots := 0, locals := 0 }).room := ⟨_, rfl⟩
  rw [← hR]
  obtain ⟨QQ, hQ⟩ : ∃ z, z = MQ below (zs_Qv 1 D cA ad A q) args s 0 0 A := ⟨_, rfl⟩
  rw [← hQ]
  have hR1 : 0 ≤ RR.frames := by rw [hR]; exact Nat.le_refl _
  have hR2 : 0 ≤ RR.locals := by rw [hR]; exact Nat.le_refl _
  generalize s.heap = H at hw ⊢
  generalize ([] : List Loc) = locs at hw ⊢
  have K0 : ∀ (n : Nat) (x1 : Int32) (x2 : Int32) (σ : zs_S) (H : Heap) (locs : List Loc) (ls : Array Slot), zf_M_lead_0 F n x1 x2 σ = some q → zs_I 1 D cA ad A s σ H locs → lv_has ls 3 [(0, .ref (ad 1)), (1, .int x1), (2, .int x2)] → W p l e RR s m args below meth c H locs 0 0 QQ (F0 m 0 ls []) := by
    intro  n
    induction n with
    | zero => intro x1 x2 σ H locs ls hf hw hl; exact nomatch (show (none : Option (zs_S)) = some q from hf)
    | succ n ih =>
      intro x1 x2 σ H locs ls hf hw hl
      rw [zf_M_lead_0] at hf
      refine lv_aload_n hx hb d_M_lead_0 rfl (lv_at hl 0 rfl) ?_
      refine zr_get (ci := 8) G hw 1 16 zi_8 rfl rfl rfl (by decide) zm_586 (fun _ h => h) (v := .int (zs_i σ 1 16)) rfl d_M_lead_1 ?_
      refine lv_iload_n hx hb d_M_lead_4 rfl (lv_at hl 1 rfl) ?_
      refine lv_icmp_le hx hb d_M_lead_5 (tgt := 74) rfl (fun hc => ?_) (fun hc => ?_)
      · have hf := (if_pos hc).symm.trans hf
        exact zr_vret G hw hr hlocks hf hQ d_M_lead_74
      · have hf := (if_neg hc).symm.trans hf
        refine lv_aload_n hx hb d_M_lead_8 rfl (lv_at hl 0 rfl) ?_
        refine lv_dup hx hb d_M_lead_9 rfl ?_
        refine zr_get (ci := 8) G hw 1 16 zi_8 rfl rfl rfl (by decide) zm_586 (fun _ h => h) (v := .int (zs_i σ 1 16)) rfl d_M_lead_10 ?_
        refine lv_iconst (v := 1) hx hb d_M_lead_13 (by decide) ?_
        refine lv_isub hx hb d_M_lead_14 ?_
        obtain ⟨σ1, e_σ1, hf⟩ := zq_ss hf
        refine zr_puti (ci := 8) G hw 1 16 zi_8 t_zd8 t_zd8_ok n_zd8 rfl rfl rfl (by decide) rfl zm_586 (fun _ h => h) rfl (x := ((zs_i σ 1 16) - 1)) (t_zd8_ok 16 (by decide)) rfl rfl d_M_lead_15 (fun H locs hw => ?_)
        rw [← e_σ1] at hw
        refine lv_aload_n hx hb d_M_lead_18 rfl (lv_at hl 0 rfl) ?_
        refine zr_get (ci := 8) G hw 1 15 zi_8 rfl rfl rfl (by decide) zm_587 (fun _ h => h) (v := .ref (ad 57)) rfl d_M_lead_19 ?_
        refine lv_aload_n hx hb d_M_lead_22 rfl (lv_at hl 0 rfl) ?_
        refine zr_get (ci := 8) G hw 1 16 zi_8 rfl rfl rfl (by decide) zm_586 (fun _ h => h) (v := .int (zs_i σ1 1 16)) rfl d_M_lead_23 ?_
        obtain ⟨hi2, hf⟩ := zq_gs hf
        refine zr_iald G hw 57 rfl rfl hi2 d_M_lead_26 ?_
        refine lv_if_ge hx hb d_M_lead_27 (tgt := 53) rfl (fun hc => ?_) (fun hc => ?_)
        · have hf := (if_pos hc).symm.trans hf
          refine lv_aload_n hx hb d_M_lead_53 rfl (lv_at hl 0 rfl) ?_
          obtain ⟨q3, e_q3, h_q3, hf⟩ := zq_qs hf
          refine zr_get (ci := 8) G hw 1 12 zi_8 rfl rfl rfl (by decide) zm_583 (fun _ h => h) (v := .ref (ad q3)) (zs_fr rfl e_q3 h_q3) d_M_lead_54 ?_
          obtain ⟨hs4, hf⟩ := zq_gs hf
          have hs4 := zq_ks hs4
          obtain ⟨q5, e_q5, h_q5, hf⟩ := zq_qs hf
          refine zr_get (ci := 9) G hw q3 10 zi_9 hs4 rfl rfl (by decide) zm_588 (fun _ h => h) (v := .ref (ad q5)) (zs_fs rfl e_q5 h_q5) d_M_lead_57 ?_
          refine lv_aload_n hx hb d_M_lead_60 rfl (lv_at hl 0 rfl) ?_
          refine zr_get (ci := 8) G hw 1 15 zi_8 rfl rfl rfl (by decide) zm_587 (fun _ h => h) (v := .ref (ad 57)) rfl d_M_lead_61 ?_
          refine lv_aload_n hx hb d_M_lead_64 rfl (lv_at hl 0 rfl) ?_
          refine zr_get (ci := 8) G hw 1 16 zi_8 rfl rfl rfl (by decide) zm_586 (fun _ h => h) (v := .int (zs_i σ1 1 16)) rfl d_M_lead_65 ?_
          obtain ⟨hi6, hf⟩ := zq_gs hf
          refine zr_iald G hw 57 rfl rfl hi6 d_M_lead_68 ?_
          refine lv_iload_n hx hb d_M_lead_69 rfl (lv_at hl 2 rfl) ?_
          obtain ⟨hs7, hf⟩ := zq_gs hf
          have hs7 := zq_ks hs7
          obtain ⟨hi8, hf⟩ := zq_gs hf
          obtain ⟨σ9, e_σ9, hf⟩ := zq_ss hf
          refine zr_iast G hw q5 hs7 rfl  hi8  d_M_lead_70 (fun H locs hw => ?_)
          rw [← e_σ9] at hw
          refine lv_goto hx hb d_M_lead_71 (tgt := 0) rfl ?_
          exact ih x1 x2 σ9 H locs ls hf hw (lv_sub hl [0, 1, 2] rfl)
        · have hf := (if_neg hc).symm.trans hf
          refine lv_aload_n hx hb d_M_lead_30 rfl (lv_at hl 0 rfl) ?_
          obtain ⟨q10, e_q10, h_q10, hf⟩ := zq_qs hf
          refine zr_get (ci := 8) G hw 1 12 zi_8 rfl rfl rfl (by decide) zm_583 (fun _ h => h) (v := .ref (ad q10)) (zs_fr rfl e_q10 h_q10) d_M_lead_31 ?_
          obtain ⟨hs11, hf⟩ := zq_gs hf
          have hs11 := zq_ks hs11
          obtain ⟨q12, e_q12, h_q12, hf⟩ := zq_qs hf
          refine zr_get (ci := 9) G hw q10 4 zi_9 hs11 rfl rfl (by decide) zm_589 (fun _ h => h) (v := .ref (ad q12)) (zs_fs rfl e_q12 h_q12) d_M_lead_34 ?_
          refine lv_iconst (v := (-1)) hx hb d_M_lead_37 (by decide) ?_
          refine lv_aload_n hx hb d_M_lead_38 rfl (lv_at hl 0 rfl) ?_
          refine zr_get (ci := 8) G hw 1 15 zi_8 rfl rfl rfl (by decide) zm_587 (fun _ h => h) (v := .ref (ad 57)) rfl d_M_lead_39 ?_
          refine lv_aload_n hx hb d_M_lead_42 rfl (lv_at hl 0 rfl) ?_
          refine zr_get (ci := 8) G hw 1 16 zi_8 rfl rfl rfl (by decide) zm_586 (fun _ h => h) (v := .int (zs_i σ1 1 16)) rfl d_M_lead_43 ?_
          obtain ⟨hi13, hf⟩ := zq_gs hf
          refine zr_iald G hw 57 rfl rfl hi13 d_M_lead_46 ?_
          refine lv_isub hx hb d_M_lead_47 ?_
          refine lv_iload_n hx hb d_M_lead_48 rfl (lv_at hl 2 rfl) ?_
          obtain ⟨hs14, hf⟩ := zq_gs hf
          have hs14 := zq_ks hs14
          obtain ⟨hi15, hf⟩ := zq_gs hf
          obtain ⟨σ16, e_σ16, hf⟩ := zq_ss hf
          refine zr_iast G hw q12 hs14 rfl  hi15  d_M_lead_49 (fun H locs hw => ?_)
          rw [← e_σ16] at hw
          refine lv_goto hx hb d_M_lead_50 (tgt := 0) rfl ?_
          exact ih x1 x2 σ16 H locs ls hf hw (lv_sub hl [0, 1, 2] rfl)
  unfold zf_M_lead at hf
  exact K0 F x1 x2 σ H locs ls hf hw (lv_sub hl [0, 1, 2] rfl)
/-! ScheduleCheckModel.declare -/
def y_M_declare : MethodName := ⟨"ScheduleCheckModel","declare","(Z)Z"⟩
theorem d_M_declare_0 : decode prog_13_method_13_code 0 = .ok (.iload_n 1, 1) := by decide +kernel
theorem d_M_declare_1 : decode prog_13_method_13_code 1 = .ok (.ifCond .eq 13, 3) := by decide +kernel
theorem d_M_declare_4 : decode prog_13_method_13_code 4 = .ok (.aload_n 0, 1) := by decide +kernel
theorem d_M_declare_5 : decode prog_13_method_13_code 5 = .ok (.getfield 149, 3) := by decide +kernel
theorem d_M_declare_8 : decode prog_13_method_13_code 8 = .ok (.getfield 152, 3) := by decide +kernel
theorem d_M_declare_11 : decode prog_13_method_13_code 11 = .ok (.goto 10, 3) := by decide +kernel
theorem d_M_declare_14 : decode prog_13_method_13_code 14 = .ok (.aload_n 0, 1) := by decide +kernel
theorem d_M_declare_15 : decode prog_13_method_13_code 15 = .ok (.getfield 149, 3) := by decide +kernel
theorem d_M_declare_18 : decode prog_13_method_13_code 18 = .ok (.getfield 161, 3) := by decide +kernel
theorem d_M_declare_21 : decode prog_13_method_13_code 21 = .ok (.astore_n 2, 1) := by decide +kernel
theorem d_M_declare_22 : decode prog_13_method_13_code 22 = .ok (.aload_n 0, 1) := by decide +kernel
theorem d_M_declare_23 : decode prog_13_method_13_code 23 = .ok (.invokevirtual 146, 3) := by decide +kernel
theorem d_M_declare_26 : decode prog_13_method_13_code 26 = .ok (.aload_n 0, 1) := by decide +kernel
theorem d_M_declare_27 : decode prog_13_method_13_code 27 = .ok (.invokevirtual 183, 3) := by decide +kernel
theorem d_M_declare_30 : decode prog_13_method_13_code 30 = .ok (.ifCond .eq 75, 3) := by decide +kernel
theorem d_M_declare_33 : decode prog_13_method_13_code 33 = .ok (.aload_n 2, 1) := by decide +kernel
theorem d_M_declare_34 : decode prog_13_method_13_code 34 = .ok (.getfield 156, 3) := by decide +kernel
theorem d_M_declare_37 : decode prog_13_method_13_code 37 = .ok (.aload_n 2, 1) := by decide +kernel
theorem d_M_declare_38 : decode prog_13_method_13_code 38 = .ok (.getfield 186, 3) := by decide +kernel
theorem d_M_declare_41 : decode prog_13_method_13_code 41 = .ok (.arraylength, 1) := by decide +kernel
theorem d_M_declare_42 : decode prog_13_method_13_code 42 = .ok (.if_icmp .eq 63, 3) := by decide +kernel
theorem d_M_declare_45 : decode prog_13_method_13_code 45 = .ok (.aload_n 0, 1) := by decide +kernel
theorem d_M_declare_46 : decode prog_13_method_13_code 46 = .ok (.getfield 149, 3) := by decide +kernel
theorem d_M_declare_49 : decode prog_13_method_13_code 49 = .ok (.getfield 152, 3) := by decide +kernel
theorem d_M_declare_52 : decode prog_13_method_13_code 52 = .ok (.aload_n 0, 1) := by decide +kernel
theorem d_M_declare_53 : decode prog_13_method_13_code 53 = .ok (.getfield 9, 3) := by decide +kernel
theorem d_M_declare_56 : decode prog_13_method_13_code 56 = .ok (.aload_n 0, 1) := by decide +kernel
theorem d_M_declare_57 : decode prog_13_method_13_code 57 = .ok (.getfield 72, 3) := by decide +kernel
theorem d_M_declare_60 : decode prog_13_method_13_code 60 = .ok (.aload_n 0, 1) := by decide +kernel
theorem d_M_declare_61 : decode prog_13_method_13_code 61 = .ok (.getfield 94, 3) := by decide +kernel
theorem d_M_declare_64 : decode prog_13_method_13_code 64 = .ok (.aload_n 0, 1) := by decide +kernel
theorem d_M_declare_65 : decode prog_13_method_13_code 65 = .ok (.getfield 72, 3) := by decide +kernel
theorem d_M_declare_68 : decode prog_13_method_13_code 68 = .ok (.isub, 1) := by decide +kernel
theorem d_M_declare_69 : decode prog_13_method_13_code 69 = .ok (.invokevirtual 188, 3) := by decide +kernel
theorem d_M_declare_72 : decode prog_13_method_13_code 72 = .ok (.ifCond .ge 33, 3) := by decide +kernel
theorem d_M_declare_75 : decode prog_13_method_13_code 75 = .ok (.aload_n 0, 1) := by decide +kernel
theorem d_M_declare_76 : decode prog_13_method_13_code 76 = .ok (.getfield 149, 3) := by decide +kernel
theorem d_M_declare_79 : decode prog_13_method_13_code 79 = .ok (.getfield 161, 3) := by decide +kernel
theorem d_M_declare_82 : decode prog_13_method_13_code 82 = .ok (.aload_n 0, 1) := by decide +kernel
theorem d_M_declare_83 : decode prog_13_method_13_code 83 = .ok (.getfield 9, 3) := by decide +kernel
theorem d_M_declare_86 : decode prog_13_method_13_code 86 = .ok (.aload_n 0, 1) := by decide +kernel
theorem d_M_declare_87 : decode prog_13_method_13_code 87 = .ok (.getfield 72, 3) := by decide +kernel
theorem d_M_declare_90 : decode prog_13_method_13_code 90 = .ok (.aload_n 0, 1) := by decide +kernel
theorem d_M_declare_91 : decode prog_13_method_13_code 91 = .ok (.getfield 94, 3) := by decide +kernel
theorem d_M_declare_94 : decode prog_13_method_13_code 94 = .ok (.aload_n 0, 1) := by decide +kernel
theorem d_M_declare_95 : decode prog_13_method_13_code 95 = .ok (.getfield 72, 3) := by decide +kernel
theorem d_M_declare_98 : decode prog_13_method_13_code 98 = .ok (.isub, 1) := by decide +kernel
theorem d_M_declare_99 : decode prog_13_method_13_code 99 = .ok (.invokevirtual 188, 3) := by decide +kernel
theorem d_M_declare_102 : decode prog_13_method_13_code 102 = .ok (.ifCond .lt 8, 3) := by decide +kernel
theorem d_M_declare_105 : decode prog_13_method_13_code 105 = .ok (.aload_n 0, 1) := by decide +kernel
theorem d_M_declare_106 : decode prog_13_method_13_code 106 = .ok (.invokevirtual 142, 3) := by decide +kernel
theorem d_M_declare_109 : decode prog_13_method_13_code 109 = .ok (.ireturn, 1) := by decide +kernel
theorem d_M_declare_110 : decode prog_13_method_13_code 110 = .ok (.aload_n 2, 1) := by decide +kernel
theorem d_M_declare_111 : decode prog_13_method_13_code 111 = .ok (.aload_n 0, 1) := by decide +kernel
theorem d_M_declare_112 : decode prog_13_method_13_code 112 = .ok (.getfield 9, 3) := by decide +kernel
theorem d_M_declare_115 : decode prog_13_method_13_code 115 = .ok (.aload_n 0, 1) := by decide +kernel
theorem d_M_declare_116 : decode prog_13_method_13_code 116 = .ok (.getfield 72, 3) := by decide +kernel
theorem d_M_declare_119 : decode prog_13_method_13_code 119 = .ok (.aload_n 0, 1) := by decide +kernel
theorem d_M_declare_120 : decode prog_13_method_13_code 120 = .ok (.getfield 94, 3) := by decide +kernel
theorem d_M_declare_123 : decode prog_13_method_13_code 123 = .ok (.aload_n 0, 1) := by decide +kernel
theorem d_M_declare_124 : decode prog_13_method_13_code 124 = .ok (.getfield 72, 3) := by decide +kernel
theorem d_M_declare_127 : decode prog_13_method_13_code 127 = .ok (.isub, 1) := by decide +kernel
theorem d_M_declare_128 : decode prog_13_method_13_code 128 = .ok (.invokevirtual 192, 3) := by decide +kernel
theorem d_M_declare_131 : decode prog_13_method_13_code 131 = .ok (.aload_n 0, 1) := by decide +kernel
theorem d_M_declare_132 : decode prog_13_method_13_code 132 = .ok (.invokevirtual 146, 3) := by decide +kernel
theorem d_M_declare_135 : decode prog_13_method_13_code 135 = .ok (.iload_n 1, 1) := by decide +kernel
theorem d_M_declare_136 : decode prog_13_method_13_code 136 = .ok (.ifCond .eq 18, 3) := by decide +kernel
theorem d_M_declare_139 : decode prog_13_method_13_code 139 = .ok (.aload_n 0, 1) := by decide +kernel
theorem d_M_declare_140 : decode prog_13_method_13_code 140 = .ok (.getfield 149, 3) := by decide +kernel
theorem d_M_declare_143 : decode prog_13_method_13_code 143 = .ok (.getfield 196, 3) := by decide +kernel
theorem d_M_declare_146 : decode prog_13_method_13_code 146 = .ok (.aload_n 2, 1) := by decide +kernel
theorem d_M_declare_147 : decode prog_13_method_13_code 147 = .ok (.getfield 156, 3) := by decide +kernel
theorem d_M_declare_150 : decode prog_13_method_13_code 150 = .ok (.iconst 1, 1) := by decide +kernel
theorem d_M_declare_151 : decode prog_13_method_13_code 151 = .ok (.isub, 1) := by decide +kernel
theorem d_M_declare_152 : decode prog_13_method_13_code 152 = .ok (.iconst 0, 1) := by decide +kernel
theorem d_M_declare_153 : decode prog_13_method_13_code 153 = .ok (.iastore, 1) := by decide +kernel
theorem d_M_declare_154 : decode prog_13_method_13_code 154 = .ok (.iload_n 1, 1) := by decide +kernel
theorem d_M_declare_155 : decode prog_13_method_13_code 155 = .ok (.ifCond .eq 78, 3) := by decide +kernel
theorem d_M_declare_158 : decode prog_13_method_13_code 158 = .ok (.aload_n 0, 1) := by decide +kernel
theorem d_M_declare_159 : decode prog_13_method_13_code 159 = .ok (.ldc 199, 2) := by decide +kernel
theorem d_M_declare_161 : decode prog_13_method_13_code 161 = .ok (.invokevirtual 109, 3) := by decide +kernel
theorem d_M_declare_164 : decode prog_13_method_13_code 164 = .ok (.ifCond .eq 69, 3) := by decide +kernel
theorem d_M_declare_167 : decode prog_13_method_13_code 167 = .ok (.aload_n 0, 1) := by decide +kernel
theorem d_M_declare_168 : decode prog_13_method_13_code 168 = .ok (.invokevirtual 146, 3) := by decide +kernel
theorem d_M_declare_171 : decode prog_13_method_13_code 171 = .ok (.aload_n 0, 1) := by decide +kernel
theorem d_M_declare_172 : decode prog_13_method_13_code 172 = .ok (.ldc 201, 2) := by decide +kernel
theorem d_M_declare_174 : decode prog_13_method_13_code 174 = .ok (.invokevirtual 109, 3) := by decide +kernel
theorem d_M_declare_177 : decode prog_13_method_13_code 177 = .ok (.istore_n 3, 1) := by decide +kernel
theorem d_M_declare_178 : decode prog_13_method_13_code 178 = .ok (.iload_n 3, 1) := by decide +kernel
theorem d_M_declare_179 : decode prog_13_method_13_code 179 = .ok (.ifCond .eq 7, 3) := by decide +kernel
theorem d_M_declare_182 : decode prog_13_method_13_code 182 = .ok (.aload_n 0, 1) := by decide +kernel
theorem d_M_declare_183 : decode prog_13_method_13_code 183 = .ok (.invokevirtual 146, 3) := by decide +kernel
theorem d_M_declare_186 : decode prog_13_method_13_code 186 = .ok (.aload_n 0, 1) := by decide +kernel
theorem d_M_declare_187 : decode prog_13_method_13_code 187 = .ok (.getfield 75, 3) := by decide +kernel
theorem d_M_declare_190 : decode prog_13_method_13_code 190 = .ok (.iconst 2, 1) := by decide +kernel
theorem d_M_declare_191 : decode prog_13_method_13_code 191 = .ok (.if_icmp .eq 8, 3) := by decide +kernel
theorem d_M_declare_194 : decode prog_13_method_13_code 194 = .ok (.aload_n 0, 1) := by decide +kernel
theorem d_M_declare_195 : decode prog_13_method_13_code 195 = .ok (.invokevirtual 142, 3) := by decide +kernel
theorem d_M_declare_198 : decode prog_13_method_13_code 198 = .ok (.ireturn, 1) := by decide +kernel
theorem d_M_declare_199 : decode prog_13_method_13_code 199 = .ok (.aload_n 0, 1) := by decide +kernel
theorem d_M_declare_200 : decode prog_13_method_13_code 200 = .ok (.getfield 149, 3) := by decide +kernel
theorem d_M_declare_203 : decode prog_13_method_13_code 203 = .ok (.getfield 196, 3) := by decide +kernel
theorem d_M_declare_206 : decode prog_13_method_13_code 206 = .ok (.aload_n 2, 1) := by decide +kernel
theorem d_M_declare_207 : decode prog_13_method_13_code 207 = .ok (.getfield 156, 3) := by decide +kernel
theorem d_M_declare_210 : decode prog_13_method_13_code 210 = .ok (.iconst 1, 1) := by decide +kernel
theorem d_M_declare_211 : decode prog_13_method_13_code 211 = .ok (.isub, 1) := by decide +kernel
theorem d_M_declare_212 : decode prog_13_method_13_code 212 = .ok (.iload_n 3, 1) := by decide +kernel
theorem d_M_declare_213 : decode prog_13_method_13_code 213 = .ok (.ifCond .eq 11, 3) := by decide +kernel
theorem d_M_declare_216 : decode prog_13_method_13_code 216 = .ok (.aload_n 0, 1) := by decide +kernel
theorem d_M_declare_217 : decode prog_13_method_13_code 217 = .ok (.getfield 85, 3) := by decide +kernel
theorem d_M_declare_220 : decode prog_13_method_13_code 220 = .ok (.ineg, 1) := by decide +kernel
theorem d_M_declare_221 : decode prog_13_method_13_code 221 = .ok (.goto 7, 3) := by decide +kernel
theorem d_M_declare_224 : decode prog_13_method_13_code 224 = .ok (.aload_n 0, 1) := by decide +kernel
theorem d_M_declare_225 : decode prog_13_method_13_code 225 = .ok (.getfield 85, 3) := by decide +kernel
theorem d_M_declare_228 : decode prog_13_method_13_code 228 = .ok (.iastore, 1) := by decide +kernel
theorem d_M_declare_229 : decode prog_13_method_13_code 229 = .ok (.aload_n 0, 1) := by decide +kernel
theorem d_M_declare_230 : decode prog_13_method_13_code 230 = .ok (.invokevirtual 146, 3) := by decide +kernel
theorem d_M_declare_233 : decode prog_13_method_13_code 233 = .ok (.aload_n 0, 1) := by decide +kernel
theorem d_M_declare_234 : decode prog_13_method_13_code 234 = .ok (.ldc 203, 2) := by decide +kernel
theorem d_M_declare_236 : decode prog_13_method_13_code 236 = .ok (.invokevirtual 205, 3) := by decide +kernel
theorem d_M_declare_239 : decode prog_13_method_13_code 239 = .ok (.ireturn, 1) := by decide +kernel
def zf_M_declare_233 (F : Nat)   (σ : zs_S) : Option (Int32 × zs_S) :=
  zq_c (zf_M_take F 1316 σ) fun r65 σ64 =>
  zq_g (zq_z r65) <|
  some (r65, σ64)
def zf_M_declare_228 (F : Nat)  (t0 : Int32) (t1 : Int32) (t2 : Nat) (σ : zs_S) : Option (Int32 × zs_S) :=
  zq_g (zq_k 1 t2 0) <|
  zq_g (zq_b t1 (zd_sh 1 t2).2) <|
  zq_v (zs_wi σ t2 ((t1).toNatClampNeg) t0) fun σ69 =>
  zq_d (zf_M_step F σ69) fun σ70 =>
  zf_M_declare_233 F σ70
def zf_M_declare_186 (F : Nat)  (x2 : Nat) (x3 : Int32) (σ : zs_S) : Option (Int32 × zs_S) :=
  if (zs_i σ 1 7) = 2 then (
    zq_q (zs_r σ 1 12) fun q57 =>
    zq_g (zq_k 1 q57 19) <|
    zq_q (zd_rf 1 q57 3) fun q59 =>
    zq_g (zq_k 1 x2 20) <|
    if x3 = 0 then (
      zf_M_declare_228 F (zs_i σ 1 10) ((zs_i σ x2 2) - 1) q59 σ
    ) else (
      zf_M_declare_228 F (-(zs_i σ 1 10)) ((zs_i σ x2 2) - 1) q59 σ
    )
  ) else (
    zq_c (zf_M_bad F σ) fun r62 σ61 =>
    zq_g (zq_z r62) <|
    some (r62, σ61)
  )
def zf_M_declare_154 (F : Nat)  (x1 : Int32) (x2 : Nat) (σ : zs_S) : Option (Int32 × zs_S) :=
  if x1 = 0 then (
    zf_M_declare_233 F σ
  ) else (
    zq_c (zf_M_is F 1314 σ) fun r46 σ45 =>
    if r46 = 0 then (
      zf_M_declare_233 F σ45
    ) else (
      zq_d (zf_M_step F σ45) fun σ48 =>
      zq_c (zf_M_is F 1315 σ48) fun r52 σ51 =>
      if r52 = 0 then (
        zf_M_declare_186 F x2 r52 σ51
      ) else (
        zq_d (zf_M_step F σ51) fun σ54 =>
        zf_M_declare_186 F x2 r52 σ54
      )
    )
  )
def zf_M_declare_105 (F : Nat)   (σ : zs_S) : Option (Int32 × zs_S) :=
  zq_c (zf_M_bad F σ) fun r43 σ42 =>
  zq_g (zq_z r43) <|
  some (r43, σ42)
def zf_M_declare_21 (F : Nat)  (x1 : Int32) (t0 : Nat) (σ : zs_S) : Option (Int32 × zs_S) :=
  zq_d (zf_M_step F σ) fun σ7 =>
  zq_c (zf_M_isName F σ7) fun r11 σ10 =>
  if r11 = 0 then (
    zf_M_declare_105 F σ10
  ) else (
    zq_g (zq_k 1 t0 20) <|
    zq_q (zd_rf 1 t0 1) fun q14 =>
    zq_g (zq_k 1 q14 0) <|
    if (zs_i σ10 t0 2) = (nI (zd_sh 1 q14).2) then (
      zf_M_declare_105 F σ10
    ) else (
      zq_q (zs_r σ10 1 12) fun q16 =>
      zq_g (zq_k 1 q16 19) <|
      zq_q (zd_rf 1 q16 0) fun q18 =>
      zq_g (zq_k 1 q18 20) <|
      zq_c (zf_MN_find F q18 2 (zs_i σ10 1 8) ((zs_i σ10 1 9) - (zs_i σ10 1 8)) σ10) fun r20 σ19 =>
      if 0 ≤ r20 then (
        zf_M_declare_105 F σ19
      ) else (
        zq_q (zs_r σ19 1 12) fun q23 =>
        zq_g (zq_k 1 q23 19) <|
        zq_q (zd_rf 1 q23 1) fun q25 =>
        zq_g (zq_k 1 q25 20) <|
        zq_c (zf_MN_find F q25 2 (zs_i σ19 1 8) ((zs_i σ19 1 9) - (zs_i σ19 1 8)) σ19) fun r27 σ26 =>
        if r27 < 0 then (
          zq_d (zf_MN_add F t0 2 (zs_i σ26 1 8) ((zs_i σ26 1 9) - (zs_i σ26 1 8)) σ26) fun σ30 =>
          zq_d (zf_M_step F σ30) fun σ33 =>
          if x1 = 0 then (
            zf_M_declare_154 F x1 t0 σ33
          ) else (
            zq_q (zs_r σ33 1 12) fun q36 =>
            zq_g (zq_k 1 q36 19) <|
            zq_q (zd_rf 1 q36 3) fun q38 =>
            zq_g (zq_k 1 q38 0) <|
            zq_g (zq_b ((zs_i σ33 t0 2) - 1) (zd_sh 1 q38).2) <|
            zq_v (zs_wi σ33 q38 (((zs_i σ33 t0 2) - 1).toNatClampNeg) 0) fun σ41 =>
            zf_M_declare_154 F x1 t0 σ41
          )
        ) else (
          zf_M_declare_105 F σ26
        )
      )
    )
  )
def zf_M_declare (F : Nat) (x1 : Int32) (σ : zs_S) : Option (Int32 × zs_S) :=
  if x1 = 0 then (
    zq_q (zs_r σ 1 12) fun q1 =>
    zq_g (zq_k 1 q1 19) <|
    zq_q (zd_rf 1 q1 1) fun q3 =>
    zf_M_declare_21 F x1 q3 σ
  ) else (
    zq_q (zs_r σ 1 12) fun q4 =>
    zq_g (zq_k 1 q4 19) <|
    zq_q (zd_rf 1 q4 0) fun q6 =>
    zf_M_declare_21 F x1 q6 σ
  )
set_option maxHeartbeats 4000000 in
set_option maxRecDepth 100000 in
theorem zc_M_declare {l : Launch} {D : va_G} {cA : Nat → ClassId} {ad : Nat → Nat} {A : Nat → Prop} {F : Nat} {x1 : Int32} {σ : zs_S} {q : Int32 × zs_S} (hJ : zs_J ad) (hf : zf_M_declare F x1 σ = some q) : Met l y_M_declare (.code y_M_declare prog_13_method_13_code 4 (some .boolean) :: zd_ww) { frames := 6, cells := 0, slots := 0, locals := 128 } (va_Pc [.ref (ad 1), .int x1] (zs_U 1 D cA ad A σ)) (zs_Qi 1 D cA ad A q) 0 0 A := by
  refine Met.ofW (cc := prog_13_method_13_code) (maxL := 4) (ret := (some .boolean)) (by decide) rfl ?_
  intro p e s m args below meth c s₁ B hml hv
  obtain ⟨hargs, hP, hK, hD, hZ⟩ := hv
  have G : zs_G 1 p s m args c prog_13_method_13_code 4 "ScheduleCheckModel" D cA ad A := ⟨⟨B.exec, B.bytes, hml, findClass_of_methodNamed B.named, fun w h => atoms_spec B.pre w (List.mem_cons_of_mem _ h)⟩, hK, hJ, hZ⟩
  have hw : zs_I 1 D cA ad A s σ s.heap [] := ⟨hP, hD, va_S.rf⟩
  have hx := G.1.1
  have hb := G.1.2.1
  have hown := G.1.2.2.2.1
  have hts := G.1.2.2.2.2
  have hr := B.returns
  have hlocks := B.notSynchronized
  have he : entryFrame m args 4 = F0 m 0 ((lg_sl [.ref (ad 1), .int x1] ++ List.replicate (4 - (lg_sl [.ref (ad 1), .int x1]).length) Slot.unset).toArray) [] := by rw [hargs]; exact lg_entry_eq m _ 4
  have hl := lv_entry [.ref (ad 1), .int x1] (n := 4) (Nat.le_of_ble_eq_true rfl)
  rw [he]
  generalize (lg_sl [.ref (ad 1), .int x1] ++ List.replicate (4 - (lg_sl [.ref (ad 1), .int x1]).length) Slot.unset).toArray = ls at hl
  have hl : lv_has ls 4 [(0, .ref (ad 1)), (1, .int x1)] := hl
  obtain ⟨RR, hR⟩ : ∃ z, z = (headSpec (.code y_M_declare prog_13_method_13_code 4 (some .boolean) :: zd_ww) { frames := 6, cells := 0, slots := 0, locals := 128 }).room := ⟨_, rfl⟩
  rw [← hR]
  obtain ⟨QQ, hQ⟩ : ∃ z, z = MQ below (zs_Qi 1 D cA ad A q) args s 0 0 A := ⟨_, rfl⟩
  rw [← hQ]
  have hR1 : 6 ≤ RR.frames := by rw [hR]; exact Nat.le_refl _
  have hR2 : 128 ≤ RR.locals := by rw [hR]; exact Nat.le_refl _
  generalize s.heap = H at hw ⊢
  generalize ([] : List Loc) = locs at hw ⊢
  have K233 : ∀ (σ : zs_S) (H : Heap) (locs : List Loc) (ls : Array Slot), zf_M_declare_233 F σ = some q → zs_I 1 D cA ad A s σ H locs → lv_has ls 4 [(0, .ref (ad 1))] → W p l e RR s m args below meth c H locs 0 0 QQ (F0 m 233 ls []) := by
    intro   σ H locs ls hf hw hl
    unfold zf_M_declare_233 at hf
    refine lv_aload_n hx hb d_M_declare_233 rfl (lv_at hl 0 rfl) ?_
    refine va_ldcS (own := "ScheduleCheckModel") (tx := ";") (q := ad 1316) hx hb hown ((G.2.2.2.2 rfl).2.2.1 16 (by decide)) d_M_declare_234 ?_
    obtain ⟨r65, σ64, hc66, hf⟩ := zq_cs hf
    refine zr_ci hw (zr_runV (rest := []) (ci := 8) (o := 1) G hw [.ref (ad 1316)] (zc_M_take hJ hc66) (cwV 1 hts (zs_gV zm_609 zm_610 zm_611 zm_551 zm_608) rfl rfl rfl (by decide +kernel) ⟨Nat.le_trans (by decide) hR1, Nat.le_trans (by decide) hR2⟩) rfl rfl rfl hl.1 (Nat.le_of_ble_eq_true rfl) d_M_declare_236 ⟨Nat.zero_le _, Nat.zero_le _⟩) (fun H locs hw => ?_)
    obtain ⟨hz, hf⟩ := zq_gs hf
    exact zr_zret G hw hr hlocks hz hf hQ d_M_declare_239
  have K228 : ∀ (t0 : Int32) (t1 : Int32) (t2 : Nat) (σ : zs_S) (H : Heap) (locs : List Loc) (ls : Array Slot), zf_M_declare_228 F t0 t1 t2 σ = some q → zs_I 1 D cA ad A s σ H locs → lv_has ls 4 [(0, .ref (ad 1))] → W p l e RR s m args below meth c H locs 0 0 QQ (F0 m 228 ls [.int t0, .int t1, .ref (ad t2)]) := by
    intro  t0 t1 t2 σ H locs ls hf hw hl
    unfold zf_M_declare_228 at hf
    obtain ⟨hs67, hf⟩ := zq_gs hf
    have hs67 := zq_ks hs67
    obtain ⟨hi68, hf⟩ := zq_gs hf
    obtain ⟨σ69, e_σ69, hf⟩ := zq_ss hf
    refine zr_iast G hw t2 hs67 rfl  hi68  d_M_declare_228 (fun H locs hw => ?_)
    rw [← e_σ69] at hw
    refine lv_aload_n hx hb d_M_declare_229 rfl (lv_at hl 0 rfl) ?_
    obtain ⟨σ70, hc72, hf⟩ := zq_ds hf
    refine zr_cv hw (zr_runV (rest := []) (ci := 8) (o := 1) G hw [] (zc_M_step hJ hc72) (cwV 0 hts (zs_gV zm_572 zm_573 zm_574 zm_551 zm_571) rfl rfl rfl (by decide +kernel) ⟨Nat.le_trans (by decide) hR1, Nat.le_trans (by decide) hR2⟩) rfl rfl rfl hl.1 (Nat.le_of_ble_eq_true rfl) d_M_declare_230 ⟨Nat.zero_le _, Nat.zero_le _⟩) (fun H locs hw => ?_)
    exact K233 σ70 H locs ls hf hw (lv_sub hl [0] rfl)
  have K186 : ∀ (x2 : Nat) (x3 : Int32) (σ : zs_S) (H : Heap) (locs : List Loc) (ls : Array Slot), zf_M_declare_186 F x2 x3 σ = some q → zs_I 1 D cA ad A s σ H locs → lv_has ls 4 [(0, .ref (ad 1)), (2, .ref (ad x2)), (3, .int x3)] → W p l e RR s m args below meth c H locs 0 0 QQ (F0 m 186 ls []) := by
    intro  x2 x3 σ H locs ls hf hw hl
    unfold zf_M_declare_186 at hf
    refine lv_aload_n hx hb d_M_declare_186 rfl (lv_at hl 0 rfl) ?_
    refine zr_get (ci := 8) G hw 1 7 zi_8 rfl rfl rfl (by decide) zm_556 (fun _ h => h) (v := .int (zs_i σ 1 7)) rfl d_M_declare_187 ?_
    refine lv_iconst (v := 2) hx hb d_M_declare_190 (by decide) ?_
    refine lv_icmp_eq hx hb d_M_declare_191 (tgt := 199) rfl (fun hc => ?_) (fun hc => ?_)
    · have hf := (if_pos hc).symm.trans hf
      refine lv_aload_n hx hb d_M_declare_199 rfl (lv_at hl 0 rfl) ?_
      obtain ⟨q57, e_q57, h_q57, hf⟩ := zq_qs hf
      refine zr_get (ci := 8) G hw 1 12 zi_8 rfl rfl rfl (by decide) zm_583 (fun _ h => h) (v := .ref (ad q57)) (zs_fr rfl e_q57 h_q57) d_M_declare_200 ?_
      obtain ⟨hs58, hf⟩ := zq_gs hf
      have hs58 := zq_ks hs58
      obtain ⟨q59, e_q59, h_q59, hf⟩ := zq_qs hf
      refine zr_get (ci := 9) G hw q57 3 zi_9 hs58 rfl rfl (by decide) zm_607 (fun _ h => h) (v := .ref (ad q59)) (zs_fs rfl e_q59 h_q59) d_M_declare_203 ?_
      refine lv_aload_n hx hb d_M_declare_206 rfl (lv_at hl 1 rfl) ?_
      obtain ⟨hs60, hf⟩ := zq_gs hf
      have hs60 := zq_ks hs60
      refine zr_get (ci := 10) G hw x2 2 zi_10 hs60 rfl rfl (by decide) zm_596 (fun _ h => h) (v := .int (zs_i σ x2 2)) rfl d_M_declare_207 ?_
      refine lv_iconst (v := 1) hx hb d_M_declare_210 (by decide) ?_
      refine lv_isub hx hb d_M_declare_211 ?_
      refine lv_iload_n hx hb d_M_declare_212 rfl (lv_at hl 2 rfl) ?_
      refine lv_if_eq hx hb d_M_declare_213 (tgt := 224) rfl (fun hc => ?_) (fun hc => ?_)
      · have hf := (if_pos hc).symm.trans hf
        refine lv_aload_n hx hb d_M_declare_224 rfl (lv_at hl 0 rfl) ?_
        refine zr_get (ci := 8) G hw 1 10 zi_8 rfl rfl rfl (by decide) zm_555 (fun _ h => h) (v := .int (zs_i σ 1 10)) rfl d_M_declare_225 ?_
        exact K228 (zs_i σ 1 10) ((zs_i σ x2 2) - 1) q59 σ H locs ls hf hw (lv_sub hl [0] rfl)
      · have hf := (if_neg hc).symm.trans hf
        refine lv_aload_n hx hb d_M_declare_216 rfl (lv_at hl 0 rfl) ?_
        refine zr_get (ci := 8) G hw 1 10 zi_8 rfl rfl rfl (by decide) zm_555 (fun _ h => h) (v := .int (zs_i σ 1 10)) rfl d_M_declare_217 ?_
        refine lv_ineg hx hb d_M_declare_220 ?_
        refine lv_goto hx hb d_M_declare_221 (tgt := 228) rfl ?_
        exact K228 (-(zs_i σ 1 10)) ((zs_i σ x2 2) - 1) q59 σ H locs ls hf hw (lv_sub hl [0] rfl)
    · have hf := (if_neg hc).symm.trans hf
      refine lv_aload_n hx hb d_M_declare_194 rfl (lv_at hl 0 rfl) ?_
      obtain ⟨r62, σ61, hc63, hf⟩ := zq_cs hf
      refine zr_ci hw (zr_runV (rest := []) (ci := 8) (o := 1) G hw [] (zc_M_bad hJ hc63) (cwV 0 hts (zs_gV zm_576 zm_577 zm_578 zm_551 zm_575) rfl rfl rfl (by decide +kernel) ⟨Nat.le_trans (by decide) hR1, Nat.le_trans (by decide) hR2⟩) rfl rfl rfl hl.1 (Nat.le_of_ble_eq_true rfl) d_M_declare_195 ⟨Nat.zero_le _, Nat.zero_le _⟩) (fun H locs hw => ?_)
      obtain ⟨hz, hf⟩ := zq_gs hf
      exact zr_zret G hw hr hlocks hz hf hQ d_M_declare_198
  have K154 : ∀ (x1 : Int32) (x2 : Nat) (σ : zs_S) (H : Heap) (locs : List Loc) (ls : Array Slot), zf_M_declare_154 F x1 x2 σ = some q → zs_I 1 D cA ad A s σ H locs → lv_has ls 4 [(0, .ref (ad 1)), (1, .int x1), (2, .ref (ad x2))] → W p l e RR s m args below meth c H locs 0 0 QQ (F0 m 154 ls []) := by
    intro  x1 x2 σ H locs ls hf hw hl
    unfold zf_M_declare_154 at hf
    refine lv_iload_n hx hb d_M_declare_154 rfl (lv_at hl 1 rfl) ?_
    refine lv_if_eq hx hb d_M_declare_155 (tgt := 233) rfl (fun hc => ?_) (fun hc => ?_)
    · have hf := (if_pos hc).symm.trans hf
      exact K233 σ H locs ls hf hw (lv_sub hl [0] rfl)
    · have hf := (if_neg hc).symm.trans hf
      refine lv_aload_n hx hb d_M_declare_158 rfl (lv_at hl 0 rfl) ?_
      refine va_ldcS (own := "ScheduleCheckModel") (tx := "=") (q := ad 1314) hx hb hown ((G.2.2.2.2 rfl).2.2.1 14 (by decide)) d_M_declare_159 ?_
      obtain ⟨r46, σ45, hc47, hf⟩ := zq_cs hf
      refine zr_ci hw (zr_runV (rest := []) (ci := 8) (o := 1) G hw [.ref (ad 1314)] (zc_M_is hJ hc47) (cwV 1 hts (zs_gV zm_568 zm_569 zm_570 zm_551 zm_567) rfl rfl rfl (by decide +kernel) ⟨Nat.le_trans (by decide) hR1, Nat.le_trans (by decide) hR2⟩) rfl rfl rfl hl.1 (Nat.le_of_ble_eq_true rfl) d_M_declare_161 ⟨Nat.zero_le _, Nat.zero_le _⟩) (fun H locs hw => ?_)
      refine lv_if_eq hx hb d_M_declare_164 (tgt := 233) rfl (fun hc => ?_) (fun hc => ?_)
      · have hf := (if_pos hc).symm.trans hf
        exact K233 σ45 H locs ls hf hw (lv_sub hl [0] rfl)
      · have hf := (if_neg hc).symm.trans hf
        refine lv_aload_n hx hb d_M_declare_167 rfl (lv_at hl 0 rfl) ?_
        obtain ⟨σ48, hc50, hf⟩ := zq_ds hf
        refine zr_cv hw (zr_runV (rest := []) (ci := 8) (o := 1) G hw [] (zc_M_step hJ hc50) (cwV 0 hts (zs_gV zm_572 zm_573 zm_574 zm_551 zm_571) rfl rfl rfl (by decide +kernel) ⟨Nat.le_trans (by decide) hR1, Nat.le_trans (by decide) hR2⟩) rfl rfl rfl hl.1 (Nat.le_of_ble_eq_true rfl) d_M_declare_168 ⟨Nat.zero_le _, Nat.zero_le _⟩) (fun H locs hw => ?_)
        refine lv_aload_n hx hb d_M_declare_171 rfl (lv_at hl 0 rfl) ?_
        refine va_ldcS (own := "ScheduleCheckModel") (tx := "-") (q := ad 1315) hx hb hown ((G.2.2.2.2 rfl).2.2.1 15 (by decide)) d_M_declare_172 ?_
        obtain ⟨r52, σ51, hc53, hf⟩ := zq_cs hf
        refine zr_ci hw (zr_runV (rest := []) (ci := 8) (o := 1) G hw [.ref (ad 1315)] (zc_M_is hJ hc53) (cwV 1 hts (zs_gV zm_568 zm_569 zm_570 zm_551 zm_567) rfl rfl rfl (by decide +kernel) ⟨Nat.le_trans (by decide) hR1, Nat.le_trans (by decide) hR2⟩) rfl rfl rfl hl.1 (Nat.le_of_ble_eq_true rfl) d_M_declare_174 ⟨Nat.zero_le _, Nat.zero_le _⟩) (fun H locs hw => ?_)
        refine lv_istore_n hx hb d_M_declare_177 rfl hl (by decide) rfl (fun ls hl => ?_)
        have hl : lv_has ls 4 [(3, .int r52), (0, .ref (ad 1)), (1, .int x1), (2, .ref (ad x2))] := hl
        refine lv_iload_n hx hb d_M_declare_178 rfl (lv_at hl 0 rfl) ?_
        refine lv_if_eq hx hb d_M_declare_179 (tgt := 186) rfl (fun hc => ?_) (fun hc => ?_)
        · have hf := (if_pos hc).symm.trans hf
          exact K186 x2 r52 σ51 H locs ls hf hw (lv_sub hl [1, 3, 0] rfl)
        · have hf := (if_neg hc).symm.trans hf
          refine lv_aload_n hx hb d_M_declare_182 rfl (lv_at hl 1 rfl) ?_
          obtain ⟨σ54, hc56, hf⟩ := zq_ds hf
          refine zr_cv hw (zr_runV (rest := []) (ci := 8) (o := 1) G hw [] (zc_M_step hJ hc56) (cwV 0 hts (zs_gV zm_572 zm_573 zm_574 zm_551 zm_571) rfl rfl rfl (by decide +kernel) ⟨Nat.le_trans (by decide) hR1, Nat.le_trans (by decide) hR2⟩) rfl rfl rfl hl.1 (Nat.le_of_ble_eq_true rfl) d_M_declare_183 ⟨Nat.zero_le _, Nat.zero_le _⟩) (fun H locs hw => ?_)
          exact K186 x2 r52 σ54 H locs ls hf hw (lv_sub hl [1, 3, 0] rfl)
  have K105 : ∀ (σ : zs_S) (H : Heap) (locs : List Loc) (ls : Array Slot), zf_M_declare_105 F σ = some q → zs_I 1 D cA ad A s σ H locs → lv_has ls 4 [(0, .ref (ad 1))] → W p l e RR s m args below meth c H locs 0 0 QQ (F0 m 105 ls []) := by
    intro   σ H locs ls hf hw hl
    unfold zf_M_declare_105 at hf
    refine lv_aload_n hx hb d_M_declare_105 rfl (lv_at hl 0 rfl) ?_
    obtain ⟨r43, σ42, hc44, hf⟩ := zq_cs hf
    refine zr_ci hw (zr_runV (rest := []) (ci := 8) (o := 1) G hw [] (zc_M_bad hJ hc44) (cwV 0 hts (zs_gV zm_576 zm_577 zm_578 zm_551 zm_575) rfl rfl rfl (by decide +kernel) ⟨Nat.le_trans (by decide) hR1, Nat.le_trans (by decide) hR2⟩) rfl rfl rfl hl.1 (Nat.le_of_ble_eq_true rfl) d_M_declare_106 ⟨Nat.zero_le _, Nat.zero_le _⟩) (fun H locs hw => ?_)
    obtain ⟨hz, hf⟩ := zq_gs hf
    exact zr_zret G hw hr hlocks hz hf hQ d_M_declare_109
  have K21 : ∀ (x1 : Int32) (t0 : Nat) (σ : zs_S) (H : Heap) (locs : List Loc) (ls : Array Slot), zf_M_declare_21 F x1 t0 σ = some q → zs_I 1 D cA ad A s σ H locs → lv_has ls 4 [(0, .ref (ad 1)), (1, .int x1)] → W p l e RR s m args below meth c H locs 0 0 QQ (F0 m 21 ls [.ref (ad t0)]) := by
    intro  x1 t0 σ H locs ls hf hw hl
    unfold zf_M_declare_21 at hf
    refine lv_astore_n hx hb d_M_declare_21 rfl hl (by decide) rfl (fun ls hl => ?_)
    have hl : lv_has ls 4 [(2, .ref (ad t0)), (0, .ref (ad 1)), (1, .int x1)] := hl
    refine lv_aload_n hx hb d_M_declare_22 rfl (lv_at hl 1 rfl) ?_
    obtain ⟨σ7, hc9, hf⟩ := zq_ds hf
    refine zr_cv hw (zr_runV (rest := []) (ci := 8) (o := 1) G hw [] (zc_M_step hJ hc9) (cwV 0 hts (zs_gV zm_572 zm_573 zm_574 zm_551 zm_571) rfl rfl rfl (by decide +kernel) ⟨Nat.le_trans (by decide) hR1, Nat.le_trans (by decide) hR2⟩) rfl rfl rfl hl.1 (Nat.le_of_ble_eq_true rfl) d_M_declare_23 ⟨Nat.zero_le _, Nat.zero_le _⟩) (fun H locs hw => ?_)
    refine lv_aload_n hx hb d_M_declare_26 rfl (lv_at hl 1 rfl) ?_
    obtain ⟨r11, σ10, hc12, hf⟩ := zq_cs hf
    refine zr_ci hw (zr_runV (rest := []) (ci := 8) (o := 1) G hw [] (zc_M_isName hJ hc12) (cwV 0 hts (zs_gV zm_593 zm_594 zm_595 zm_551 zm_592) rfl rfl rfl (by decide +kernel) ⟨Nat.le_trans (by decide) hR1, Nat.le_trans (by decide) hR2⟩) rfl rfl rfl hl.1 (Nat.le_of_ble_eq_true rfl) d_M_declare_27 ⟨Nat.zero_le _, Nat.zero_le _⟩) (fun H locs hw => ?_)
    refine lv_if_eq hx hb d_M_declare_30 (tgt := 105) rfl (fun hc => ?_) (fun hc => ?_)
    · have hf := (if_pos hc).symm.trans hf
      exact K105 σ10 H locs ls hf hw (lv_sub hl [1] rfl)
    · have hf := (if_neg hc).symm.trans hf
      refine lv_aload_n hx hb d_M_declare_33 rfl (lv_at hl 0 rfl) ?_
      obtain ⟨hs13, hf⟩ := zq_gs hf
      have hs13 := zq_ks hs13
      refine zr_get (ci := 10) G hw t0 2 zi_10 hs13 rfl rfl (by decide) zm_596 (fun _ h => h) (v := .int (zs_i σ10 t0 2)) rfl d_M_declare_34 ?_
      refine lv_aload_n hx hb d_M_declare_37 rfl (lv_at hl 0 rfl) ?_
      obtain ⟨q14, e_q14, h_q14, hf⟩ := zq_qs hf
      refine zr_get (ci := 10) G hw t0 1 zi_10 hs13 rfl rfl (by decide) zm_597 (fun _ h => h) (v := .ref (ad q14)) (zs_fs rfl e_q14 h_q14) d_M_declare_38 ?_
      obtain ⟨hs15, hf⟩ := zq_gs hf
      have hs15 := zq_ks hs15
      refine zr_alen G hw q14 hs15 (by decide) rfl d_M_declare_41 ?_
      refine lv_icmp_eq hx hb d_M_declare_42 (tgt := 105) rfl (fun hc => ?_) (fun hc => ?_)
      · have hf := (if_pos hc).symm.trans hf
        exact K105 σ10 H locs ls hf hw (lv_sub hl [1] rfl)
      · have hf := (if_neg hc).symm.trans hf
        refine lv_aload_n hx hb d_M_declare_45 rfl (lv_at hl 1 rfl) ?_
        obtain ⟨q16, e_q16, h_q16, hf⟩ := zq_qs hf
        refine zr_get (ci := 8) G hw 1 12 zi_8 rfl rfl rfl (by decide) zm_583 (fun _ h => h) (v := .ref (ad q16)) (zs_fr rfl e_q16 h_q16) d_M_declare_46 ?_
        obtain ⟨hs17, hf⟩ := zq_gs hf
        have hs17 := zq_ks hs17
        obtain ⟨q18, e_q18, h_q18, hf⟩ := zq_qs hf
        refine zr_get (ci := 9) G hw q16 0 zi_9 hs17 rfl rfl (by decide) zm_591 (fun _ h => h) (v := .ref (ad q18)) (zs_fs rfl e_q18 h_q18) d_M_declare_49 ?_
        refine lv_aload_n hx hb d_M_declare_52 rfl (lv_at hl 1 rfl) ?_
        refine zr_get (ci := 8) G hw 1 0 zi_8 rfl rfl rfl (by decide) zm_547 (fun _ h => h) (v := .ref (ad 2)) rfl d_M_declare_53 ?_
        refine lv_aload_n hx hb d_M_declare_56 rfl (lv_at hl 1 rfl) ?_
        refine zr_get (ci := 8) G hw 1 8 zi_8 rfl rfl rfl (by decide) zm_544 (fun _ h => h) (v := .int (zs_i σ10 1 8)) rfl d_M_declare_57 ?_
        refine lv_aload_n hx hb d_M_declare_60 rfl (lv_at hl 1 rfl) ?_
        refine zr_get (ci := 8) G hw 1 9 zi_8 rfl rfl rfl (by decide) zm_558 (fun _ h => h) (v := .int (zs_i σ10 1 9)) rfl d_M_declare_61 ?_
        refine lv_aload_n hx hb d_M_declare_64 rfl (lv_at hl 1 rfl) ?_
        refine zr_get (ci := 8) G hw 1 8 zi_8 rfl rfl rfl (by decide) zm_544 (fun _ h => h) (v := .int (zs_i σ10 1 8)) rfl d_M_declare_65 ?_
        refine lv_isub hx hb d_M_declare_68 ?_
        obtain ⟨hs22, hf⟩ := zq_gs hf
        have hs22 := zq_ks hs22
        obtain ⟨r20, σ19, hc21, hf⟩ := zq_cs hf
        refine zr_ci hw (zr_runV (rest := []) (ci := 10) (o := q18) G hw [.ref (ad 2), .int (zs_i σ10 1 8), .int ((zs_i σ10 1 9) - (zs_i σ10 1 8))] (zc_MN_find hJ hc21) (cwV 3 hts (zs_gV zm_599 zm_600 zm_601 zm_602 zm_598) rfl rfl rfl (by decide +kernel) ⟨Nat.le_trans (by decide) hR1, Nat.le_trans (by decide) hR2⟩) hs22 rfl rfl hl.1 (Nat.le_of_ble_eq_true rfl) d_M_declare_69 ⟨Nat.zero_le _, Nat.zero_le _⟩) (fun H locs hw => ?_)
        refine lv_if_ge hx hb d_M_declare_72 (tgt := 105) rfl (fun hc => ?_) (fun hc => ?_)
        · have hf := (if_pos hc).symm.trans hf
          exact K105 σ19 H locs ls hf hw (lv_sub hl [1] rfl)
        · have hf := (if_neg hc).symm.trans hf
          refine lv_aload_n hx hb d_M_declare_75 rfl (lv_at hl 1 rfl) ?_
          obtain ⟨q23, e_q23, h_q23, hf⟩ := zq_qs hf
          refine zr_get (ci := 8) G hw 1 12 zi_8 rfl rfl rfl (by decide) zm_583 (fun _ h => h) (v := .ref (ad q23)) (zs_fr rfl e_q23 h_q23) d_M_declare_76 ?_
          obtain ⟨hs24, hf⟩ := zq_gs hf
          have hs24 := zq_ks hs24
          obtain ⟨q25, e_q25, h_q25, hf⟩ := zq_qs hf
          refine zr_get (ci := 9) G hw q23 1 zi_9 hs24 rfl rfl (by decide) zm_590 (fun _ h => h) (v := .ref (ad q25)) (zs_fs rfl e_q25 h_q25) d_M_declare_79 ?_
          refine lv_aload_n hx hb d_M_declare_82 rfl (lv_at hl 1 rfl) ?_
          refine zr_get (ci := 8) G hw 1 0 zi_8 rfl rfl rfl (by decide) zm_547 (fun _ h => h) (v := .ref (ad 2)) rfl d_M_declare_83 ?_
          refine lv_aload_n hx hb d_M_declare_86 rfl (lv_at hl 1 rfl) ?_
          refine zr_get (ci := 8) G hw 1 8 zi_8 rfl rfl rfl (by decide) zm_544 (fun _ h => h) (v := .int (zs_i σ19 1 8)) rfl d_M_declare_87 ?_
          refine lv_aload_n hx hb d_M_declare_90 rfl (lv_at hl 1 rfl) ?_
          refine zr_get (ci := 8) G hw 1 9 zi_8 rfl rfl rfl (by decide) zm_558 (fun _ h => h) (v := .int (zs_i σ19 1 9)) rfl d_M_declare_91 ?_
          refine lv_aload_n hx hb d_M_declare_94 rfl (lv_at hl 1 rfl) ?_
          refine zr_get (ci := 8) G hw 1 8 zi_8 rfl rfl rfl (by decide) zm_544 (fun _ h => h) (v := .int (zs_i σ19 1 8)) rfl d_M_declare_95 ?_
          refine lv_isub hx hb d_M_declare_98 ?_
          obtain ⟨hs29, hf⟩ := zq_gs hf
          have hs29 := zq_ks hs29
          obtain ⟨r27, σ26, hc28, hf⟩ := zq_cs hf
          refine zr_ci hw (zr_runV (rest := []) (ci := 10) (o := q25) G hw [.ref (ad 2), .int (zs_i σ19 1 8), .int ((zs_i σ19 1 9) - (zs_i σ19 1 8))] (zc_MN_find hJ hc28) (cwV 3 hts (zs_gV zm_599 zm_600 zm_601 zm_602 zm_598) rfl rfl rfl (by decide +kernel) ⟨Nat.le_trans (by decide) hR1, Nat.le_trans (by decide) hR2⟩) hs29 rfl rfl hl.1 (Nat.le_of_ble_eq_true rfl) d_M_declare_99 ⟨Nat.zero_le _, Nat.zero_le _⟩) (fun H locs hw => ?_)
          refine lv_if_lt hx hb d_M_declare_102 (tgt := 110) rfl (fun hc => ?_) (fun hc => ?_)
          · have hf := (if_pos hc).symm.trans hf
            refine lv_aload_n hx hb d_M_declare_110 rfl (lv_at hl 0 rfl) ?_
            refine lv_aload_n hx hb d_M_declare_111 rfl (lv_at hl 1 rfl) ?_
            refine zr_get (ci := 8) G hw 1 0 zi_8 rfl rfl rfl (by decide) zm_547 (fun _ h => h) (v := .ref (ad 2)) rfl d_M_declare_112 ?_
            refine lv_aload_n hx hb d_M_declare_115 rfl (lv_at hl 1 rfl) ?_
            refine zr_get (ci := 8) G hw 1 8 zi_8 rfl rfl rfl (by decide) zm_544 (fun _ h => h) (v := .int (zs_i σ26 1 8)) rfl d_M_declare_116 ?_
            refine lv_aload_n hx hb d_M_declare_119 rfl (lv_at hl 1 rfl) ?_
            refine zr_get (ci := 8) G hw 1 9 zi_8 rfl rfl rfl (by decide) zm_558 (fun _ h => h) (v := .int (zs_i σ26 1 9)) rfl d_M_declare_120 ?_
            refine lv_aload_n hx hb d_M_declare_123 rfl (lv_at hl 1 rfl) ?_
            refine zr_get (ci := 8) G hw 1 8 zi_8 rfl rfl rfl (by decide) zm_544 (fun _ h => h) (v := .int (zs_i σ26 1 8)) rfl d_M_declare_124 ?_
            refine lv_isub hx hb d_M_declare_127 ?_
            obtain ⟨σ30, hc32, hf⟩ := zq_ds hf
            refine zr_cv hw (zr_runV (rest := []) (ci := 10) (o := t0) G hw [.ref (ad 2), .int (zs_i σ26 1 8), .int ((zs_i σ26 1 9) - (zs_i σ26 1 8))] (zc_MN_add hJ hc32) (cwV 3 hts (zs_gV zm_604 zm_605 zm_606 zm_602 zm_603) rfl rfl rfl (by decide +kernel) ⟨Nat.le_trans (by decide) hR1, Nat.le_trans (by decide) hR2⟩) hs13 rfl rfl hl.1 (Nat.le_of_ble_eq_true rfl) d_M_declare_128 ⟨Nat.zero_le _, Nat.zero_le _⟩) (fun H locs hw => ?_)
            refine lv_aload_n hx hb d_M_declare_131 rfl (lv_at hl 1 rfl) ?_
            obtain ⟨σ33, hc35, hf⟩ := zq_ds hf
            refine zr_cv hw (zr_runV (rest := []) (ci := 8) (o := 1) G hw [] (zc_M_step hJ hc35) (cwV 0 hts (zs_gV zm_572 zm_573 zm_574 zm_551 zm_571) rfl rfl rfl (by decide +kernel) ⟨Nat.le_trans (by decide) hR1, Nat.le_trans (by decide) hR2⟩) rfl rfl rfl hl.1 (Nat.le_of_ble_eq_true rfl) d_M_declare_132 ⟨Nat.zero_le _, Nat.zero_le _⟩) (fun H locs hw => ?_)
            refine lv_iload_n hx hb d_M_declare_135 rfl (lv_at hl 2 rfl) ?_
            refine lv_if_eq hx hb d_M_declare_136 (tgt := 154) rfl (fun hc => ?_) (fun hc => ?_)
            · have hf := (if_pos hc).symm.trans hf
              exact K154 x1 t0 σ33 H locs ls hf hw (lv_sub hl [1, 2, 0] rfl)
            · have hf := (if_neg hc).symm.trans hf
              refine lv_aload_n hx hb d_M_declare_139 rfl (lv_at hl 1 rfl) ?_
              obtain ⟨q36, e_q36, h_q36, hf⟩ := zq_qs hf
              refine zr_get (ci := 8) G hw 1 12 zi_8 rfl rfl rfl (by decide) zm_583 (fun _ h => h) (v := .ref (ad q36)) (zs_fr rfl e_q36 h_q36) d_M_declare_140 ?_
              obtain ⟨hs37, hf⟩ := zq_gs hf
              have hs37 := zq_ks hs37
              obtain ⟨q38, e_q38, h_q38, hf⟩ := zq_qs hf
              refine zr_get (ci := 9) G hw q36 3 zi_9 hs37 rfl rfl (by decide) zm_607 (fun _ h => h) (v := .ref (ad q38)) (zs_fs rfl e_q38 h_q38) d_M_declare_143 ?_
              refine lv_aload_n hx hb d_M_declare_146 rfl (lv_at hl 0 rfl) ?_
              refine zr_get (ci := 10) G hw t0 2 zi_10 hs13 rfl rfl (by decide) zm_596 (fun _ h => h) (v := .int (zs_i σ33 t0 2)) rfl d_M_declare_147 ?_
              refine lv_iconst (v := 1) hx hb d_M_declare_150 (by decide) ?_
              refine lv_isub hx hb d_M_declare_151 ?_
              refine lv_iconst (v := 0) hx hb d_M_declare_152 (by decide) ?_
              obtain ⟨hs39, hf⟩ := zq_gs hf
              have hs39 := zq_ks hs39
              obtain ⟨hi40, hf⟩ := zq_gs hf
              obtain ⟨σ41, e_σ41, hf⟩ := zq_ss hf
              refine zr_iast G hw q38 hs39 rfl  hi40  d_M_declare_153 (fun H locs hw => ?_)
              rw [← e_σ41] at hw
              exact K154 x1 t0 σ41 H locs ls hf hw (lv_sub hl [1, 2, 0] rfl)
          · have hf := (if_neg hc).symm.trans hf
            exact K105 σ26 H locs ls hf hw (lv_sub hl [1] rfl)
  unfold zf_M_declare at hf
  refine lv_iload_n hx hb d_M_declare_0 rfl (lv_at hl 1 rfl) ?_
  refine lv_if_eq hx hb d_M_declare_1 (tgt := 14) rfl (fun hc => ?_) (fun hc => ?_)
  · have hf := (if_pos hc).symm.trans hf
    refine lv_aload_n hx hb d_M_declare_14 rfl (lv_at hl 0 rfl) ?_
    obtain ⟨q1, e_q1, h_q1, hf⟩ := zq_qs hf
    refine zr_get (ci := 8) G hw 1 12 zi_8 rfl rfl rfl (by decide) zm_583 (fun _ h => h) (v := .ref (ad q1)) (zs_fr rfl e_q1 h_q1) d_M_declare_15 ?_
    obtain ⟨hs2, hf⟩ := zq_gs hf
    have hs2 := zq_ks hs2
    obtain ⟨q3, e_q3, h_q3, hf⟩ := zq_qs hf
    refine zr_get (ci := 9) G hw q1 1 zi_9 hs2 rfl rfl (by decide) zm_590 (fun _ h => h) (v := .ref (ad q3)) (zs_fs rfl e_q3 h_q3) d_M_declare_18 ?_
    exact K21 x1 q3 σ H locs ls hf hw (lv_sub hl [0, 1] rfl)
  · have hf := (if_neg hc).symm.trans hf
    refine lv_aload_n hx hb d_M_declare_4 rfl (lv_at hl 0 rfl) ?_
    obtain ⟨q4, e_q4, h_q4, hf⟩ := zq_qs hf
    refine zr_get (ci := 8) G hw 1 12 zi_8 rfl rfl rfl (by decide) zm_583 (fun _ h => h) (v := .ref (ad q4)) (zs_fr rfl e_q4 h_q4) d_M_declare_5 ?_
    obtain ⟨hs5, hf⟩ := zq_gs hf
    have hs5 := zq_ks hs5
    obtain ⟨q6, e_q6, h_q6, hf⟩ := zq_qs hf
    refine zr_get (ci := 9) G hw q4 0 zi_9 hs5 rfl rfl (by decide) zm_591 (fun _ h => h) (v := .ref (ad q6)) (zs_fs rfl e_q6 h_q6) d_M_declare_8 ?_
    refine lv_goto hx hb d_M_declare_11 (tgt := 21) rfl ?_
    exact K21 x1 q6 σ H locs ls hf hw (lv_sub hl [0, 1] rfl)
/-! ScheduleCheckModel.end -/
def y_M_end : MethodName := ⟨"ScheduleCheckModel","end","(I)I"⟩
theorem d_M_end_0 : decode prog_13_method_4_code 0 = .ok (.iload_n 1, 1) := by decide +kernel
theorem d_M_end_1 : decode prog_13_method_4_code 1 = .ok (.iconst 0, 1) := by decide +kernel
theorem d_M_end_2 : decode prog_13_method_4_code 2 = .ok (.aload_n 0, 1) := by decide +kernel
theorem d_M_end_3 : decode prog_13_method_4_code 3 = .ok (.getfield 58, 3) := by decide +kernel
theorem d_M_end_6 : decode prog_13_method_4_code 6 = .ok (.invokestatic 62, 3) := by decide +kernel
theorem d_M_end_9 : decode prog_13_method_4_code 9 = .ok (.ifCond .ne 5, 3) := by decide +kernel
theorem d_M_end_12 : decode prog_13_method_4_code 12 = .ok (.iconst (-1), 1) := by decide +kernel
theorem d_M_end_13 : decode prog_13_method_4_code 13 = .ok (.ireturn, 1) := by decide +kernel
theorem d_M_end_14 : decode prog_13_method_4_code 14 = .ok (.aload_n 0, 1) := by decide +kernel
theorem d_M_end_15 : decode prog_13_method_4_code 15 = .ok (.iload_n 1, 1) := by decide +kernel
theorem d_M_end_16 : decode prog_13_method_4_code 16 = .ok (.putfield 58, 3) := by decide +kernel
theorem d_M_end_19 : decode prog_13_method_4_code 19 = .ok (.iload_n 1, 1) := by decide +kernel
theorem d_M_end_20 : decode prog_13_method_4_code 20 = .ok (.ireturn, 1) := by decide +kernel
def zf_M_end (F : Nat) (x1 : Int32) (σ : zs_S) : Option (Int32 × zs_S) :=
  zq_c (zf_M_in F x1 0 (zs_i σ 1 1) σ) fun r2 σ1 =>
  if r2 = 0 then (
    some ((-1), σ1)
  ) else (
    zq_v (zs_wi σ1 1 1 x1) fun σ4 =>
    some (x1, σ4)
  )
set_option maxHeartbeats 4000000 in
set_option maxRecDepth 100000 in
theorem zc_M_end {l : Launch} {D : va_G} {cA : Nat → ClassId} {ad : Nat → Nat} {A : Nat → Prop} {F : Nat} {x1 : Int32} {σ : zs_S} {q : Int32 × zs_S} (hJ : zs_J ad) (hf : zf_M_end F x1 σ = some q) : Met l y_M_end (.code y_M_end prog_13_method_4_code 2 (some .int) :: zd_ww) { frames := 1, cells := 0, slots := 0, locals := 22 } (va_Pc [.ref (ad 1), .int x1] (zs_U 1 D cA ad A σ)) (zs_Qi 1 D cA ad A q) 0 0 A := by
  refine Met.ofW (cc := prog_13_method_4_code) (maxL := 2) (ret := (some .int)) (by decide) rfl ?_
  intro p e s m args below meth c s₁ B hml hv
  obtain ⟨hargs, hP, hK, hD, hZ⟩ := hv
  have G : zs_G 1 p s m args c prog_13_method_4_code 2 "ScheduleCheckModel" D cA ad A := ⟨⟨B.exec, B.bytes, hml, findClass_of_methodNamed B.named, fun w h => atoms_spec B.pre w (List.mem_cons_of_mem _ h)⟩, hK, hJ, hZ⟩
  have hw : zs_I 1 D cA ad A s σ s.heap [] := ⟨hP, hD, va_S.rf⟩
  have hx := G.1.1
  have hb := G.1.2.1
  have hown := G.1.2.2.2.1
  have hts := G.1.2.2.2.2
  have hr := B.returns
  have hlocks := B.notSynchronized
  have he : entryFrame m args 2 = F0 m 0 ((lg_sl [.ref (ad 1), .int x1] ++ List.replicate (2 - (lg_sl [.ref (ad 1), .int x1]).length) Slot.unset).toArray) [] := by rw [hargs]; exact lg_entry_eq m _ 2
  have hl := lv_entry [.ref (ad 1), .int x1] (n := 2) (Nat.le_of_ble_eq_true rfl)
  rw [he]
  generalize (lg_sl [.ref (ad 1), .int x1] ++ List.replicate (2 - (lg_sl [.ref (ad 1), .int x1]).length) Slot.unset).toArray = ls at hl
  have hl : lv_has ls 2 [(0, .ref (ad 1)), (1, .int x1)] := hl
  obtain ⟨RR, hR⟩ : ∃ z, z = (headSpec (.code y_M_end prog_13_method_4_code 2 (some .int) :: zd_ww) { frames := 1, cells := 0, slots := 0, locals := 22 }).room := ⟨_, rfl⟩
  rw [← hR]
  obtain ⟨QQ, hQ⟩ : ∃ z, z = MQ below (zs_Qi 1 D cA ad A q) args s 0 0 A := ⟨_, rfl⟩
  rw [← hQ]
  have hR1 : 1 ≤ RR.frames := by rw [hR]; exact Nat.le_refl _
  have hR2 : 22 ≤ RR.locals := by rw [hR]; exact Nat.le_refl _
  generalize s.heap = H at hw ⊢
  generalize ([] : List Loc) = locs at hw ⊢
  unfold zf_M_end at hf
  refine lv_iload_n hx hb d_M_end_0 rfl (lv_at hl 1 rfl) ?_
  refine lv_iconst (v := 0) hx hb d_M_end_1 (by decide) ?_
  refine lv_aload_n hx hb d_M_end_2 rfl (lv_at hl 0 rfl) ?_
  refine zr_get (ci := 8) G hw 1 1 zi_8 rfl rfl rfl (by decide) zm_612 (fun _ h => h) (v := .int (zs_i σ 1 1)) rfl d_M_end_3 ?_
  obtain ⟨r2, σ1, hc3, hf⟩ := zq_cs hf
  refine zr_ci hw (zr_runS (rest := []) G hw [.int x1, .int 0, .int (zs_i σ 1 1)] (zc_M_in hJ hc3) (va_cwS 3 hts (zs_gS zm_614 zm_615 zm_551 zm_613) rfl rfl rfl (by decide +kernel) ⟨Nat.le_trans (by decide) hR1, Nat.le_trans (by decide) hR2⟩) rfl hl.1 (Nat.le_of_ble_eq_true rfl) d_M_end_6 ⟨Nat.zero_le _, Nat.zero_le _⟩) (fun H locs hw => ?_)
  refine lv_if_ne hx hb d_M_end_9 (tgt := 14) rfl (fun hc => ?_) (fun hc => ?_)
  · have hf := (if_neg hc).symm.trans hf
    refine lv_aload_n hx hb d_M_end_14 rfl (lv_at hl 0 rfl) ?_
    refine lv_iload_n hx hb d_M_end_15 rfl (lv_at hl 1 rfl) ?_
    obtain ⟨σ4, e_σ4, hf⟩ := zq_ss hf
    refine zr_puti (ci := 8) G hw 1 1 zi_8 t_zd8 t_zd8_ok n_zd8 rfl rfl rfl (by decide) rfl zm_612 (fun _ h => h) rfl (x := x1) (t_zd8_ok 1 (by decide)) rfl rfl d_M_end_16 (fun H locs hw => ?_)
    rw [← e_σ4] at hw
    refine lv_iload_n hx hb d_M_end_19 rfl (lv_at hl 1 rfl) ?_
    exact zr_iret G hw hr hlocks hf hQ d_M_end_20
  · have hf := (if_pos hc).symm.trans hf
    refine lv_iconst (v := (-1)) hx hb d_M_end_12 (by decide) ?_
    exact zr_iret G hw hr hlocks hf hQ d_M_end_13
