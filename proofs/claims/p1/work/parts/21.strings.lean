theorem zm_519 : Cond.fieldLink "java/lang/String" 1053 "jdk/internal/util/Preconditions" "SIOOBE_FORMATTER" "Ljava/util/function/BiFunction;" ∈ zd_ww := zd_me 1040 (by decide +kernel) (by decide +kernel)
theorem zm_520 : Cond.code ⟨"jdk/internal/util/Preconditions","checkIndex","(IILjava/util/function/BiFunction;)I"⟩ prog_23_method_11_code 3 (Option.some FieldType.int) ∈ zd_ww := zd_me 1044 (by decide +kernel) (by decide +kernel)
theorem zm_521 : Cond.methodLink "java/lang/String" 1059 ⟨"jdk/internal/util/Preconditions","checkIndex","(IILjava/util/function/BiFunction;)I"⟩ ∈ zd_ww := zd_me 1042 (by decide +kernel) (by decide +kernel)
theorem zm_522 : Cond.static ⟨"jdk/internal/util/Preconditions","checkIndex","(IILjava/util/function/BiFunction;)I"⟩ ∈ zd_ww := zd_me 1043 (by decide +kernel) (by decide +kernel)
theorem zm_523 : Cond.initialized "jdk/internal/util/Preconditions" ∈ zd_ww := zd_me 21 (by decide +kernel) (by decide +kernel)
theorem zm_524 : Cond.fieldLink "java/lang/String" 38 "java/lang/String" "COMPACT_STRINGS" "Z" ∈ zd_ww := zd_me 1024 (by decide +kernel) (by decide +kernel)
theorem zm_525 : Cond.fieldLink "java/lang/String" 15 "java/lang/String" "coder" "B" ∈ zd_ww := zd_me 1291 (by decide +kernel) (by decide +kernel)
theorem zm_526 : Cond.fieldLink "java/lang/String" 9 "java/lang/String" "value" "[B" ∈ zd_ww := zd_me 1290 (by decide +kernel) (by decide +kernel)
theorem zm_527 : Cond.code ⟨"java/lang/String","coder","()B"⟩ prog_18_method_152_code 1 (Option.some FieldType.byte) ∈ zd_ww := zd_me 1023 (by decide +kernel) (by decide +kernel)
theorem zm_528 : Cond.methodLink "java/lang/String" 335 ⟨"java/lang/String","coder","()B"⟩ ∈ zd_ww := zd_me 1020 (by decide +kernel) (by decide +kernel)
theorem zm_529 : Cond.instanceMethod ⟨"java/lang/String","coder","()B"⟩ ∈ zd_ww := zd_me 1021 (by decide +kernel) (by decide +kernel)
theorem zm_530 : Cond.selects "java/lang/String" ⟨"java/lang/String","coder","()B"⟩ ⟨"java/lang/String","coder","()B"⟩ ∈ zd_ww := zd_me 1022 (by decide +kernel) (by decide +kernel)
theorem zm_531 : Cond.initialized "java/lang/String" ∈ zd_ww := zd_me 19 (by decide +kernel) (by decide +kernel)
theorem zm_532 : Cond.code ⟨"java/lang/String","checkIndex","(II)V"⟩ prog_18_method_155_code 2 none ∈ zd_ww := zd_me 1039 (by decide +kernel) (by decide +kernel)
theorem zm_533 : Cond.methodLink "java/lang/StringLatin1" 9 ⟨"java/lang/String","checkIndex","(II)V"⟩ ∈ zd_ww := zd_me 1037 (by decide +kernel) (by decide +kernel)
theorem zm_534 : Cond.static ⟨"java/lang/String","checkIndex","(II)V"⟩ ∈ zd_ww := zd_me 1038 (by decide +kernel) (by decide +kernel)
theorem zm_535 : Cond.code ⟨"java/lang/String","isLatin1","()Z"⟩ prog_18_method_154_code 1 (Option.some FieldType.boolean) ∈ zd_ww := zd_me 1033 (by decide +kernel) (by decide +kernel)
theorem zm_536 : Cond.methodLink "java/lang/String" 492 ⟨"java/lang/String","isLatin1","()Z"⟩ ∈ zd_ww := zd_me 1030 (by decide +kernel) (by decide +kernel)
theorem zm_537 : Cond.instanceMethod ⟨"java/lang/String","isLatin1","()Z"⟩ ∈ zd_ww := zd_me 1031 (by decide +kernel) (by decide +kernel)
theorem zm_538 : Cond.selects "java/lang/String" ⟨"java/lang/String","isLatin1","()Z"⟩ ⟨"java/lang/String","isLatin1","()Z"⟩ ∈ zd_ww := zd_me 1032 (by decide +kernel) (by decide +kernel)
theorem zm_539 : Cond.code ⟨"java/lang/StringLatin1","charAt","([BI)C"⟩ prog_19_method_2_code 2 (Option.some FieldType.char) ∈ zd_ww := zd_me 1036 (by decide +kernel) (by decide +kernel)
theorem zm_540 : Cond.methodLink "java/lang/String" 495 ⟨"java/lang/StringLatin1","charAt","([BI)C"⟩ ∈ zd_ww := zd_me 1034 (by decide +kernel) (by decide +kernel)
theorem zm_541 : Cond.static ⟨"java/lang/StringLatin1","charAt","([BI)C"⟩ ∈ zd_ww := zd_me 1035 (by decide +kernel) (by decide +kernel)
theorem zm_542 : Cond.initialized "java/lang/StringLatin1" ∈ zd_ww := zd_me 20 (by decide +kernel) (by decide +kernel)
def y_Preconditions_checkIndex1 : MethodName := ⟨"jdk/internal/util/Preconditions","checkIndex","(IILjava/util/function/BiFunction;)I"⟩
theorem d_Preconditions_checkIndex1_0 : decode prog_23_method_11_code 0 = .ok (.iload_n 0, 1) := by decide +kernel
theorem d_Preconditions_checkIndex1_1 : decode prog_23_method_11_code 1 = .ok (.ifCond .lt 8, 3) := by decide +kernel
theorem d_Preconditions_checkIndex1_4 : decode prog_23_method_11_code 4 = .ok (.iload_n 0, 1) := by decide +kernel
theorem d_Preconditions_checkIndex1_5 : decode prog_23_method_11_code 5 = .ok (.iload_n 1, 1) := by decide +kernel
theorem d_Preconditions_checkIndex1_6 : decode prog_23_method_11_code 6 = .ok (.if_icmp .lt 10, 3) := by decide +kernel
theorem d_Preconditions_checkIndex1_9 : decode prog_23_method_11_code 9 = .ok (.aload_n 2, 1) := by decide +kernel
theorem d_Preconditions_checkIndex1_10 : decode prog_23_method_11_code 10 = .ok (.iload_n 0, 1) := by decide +kernel
theorem d_Preconditions_checkIndex1_11 : decode prog_23_method_11_code 11 = .ok (.iload_n 1, 1) := by decide +kernel
theorem d_Preconditions_checkIndex1_12 : decode prog_23_method_11_code 12 = .ok (.invokestatic 95, 3) := by decide +kernel
theorem d_Preconditions_checkIndex1_15 : decode prog_23_method_11_code 15 = .ok (.athrow, 1) := by decide +kernel
theorem d_Preconditions_checkIndex1_16 : decode prog_23_method_11_code 16 = .ok (.iload_n 0, 1) := by decide +kernel
theorem d_Preconditions_checkIndex1_17 : decode prog_23_method_11_code 17 = .ok (.ireturn, 1) := by decide +kernel
/-! jdk/internal/util/Preconditions.checkIndex -/
def zf_Preconditions_checkIndex1n_9 (F : Nat)   (σ : zs_S) : Option (Int32 × zs_S) :=
  none
def zf_Preconditions_checkIndex1n (F : Nat) (x0 : Int32) (x1 : Int32) (σ : zs_S) : Option (Int32 × zs_S) :=
  if x0 < 0 then (
    zf_Preconditions_checkIndex1n_9 F σ
  ) else (
    if x0 < x1 then (
      some (x0, σ)
    ) else (
      zf_Preconditions_checkIndex1n_9 F σ
    )
  )
set_option maxHeartbeats 4000000 in
set_option maxRecDepth 100000 in
theorem zc_Preconditions_checkIndex1n {l : Launch} {D : va_G} {cA : Nat → ClassId} {ad : Nat → Nat} {A : Nat → Prop} {F : Nat} {x0 : Int32} {x1 : Int32} {σ : zs_S} {q : Int32 × zs_S} (hJ : zs_J ad) (hf : zf_Preconditions_checkIndex1n F x0 x1 σ = some q) : Met l y_Preconditions_checkIndex1 (.code y_Preconditions_checkIndex1 prog_23_method_11_code 3 (some .int) :: zd_ww) { frames := 0, cells := 0, slots := 0, locals := 0 } (va_Pc [.int x0, .int x1, .null] (zs_U 1 D cA ad A σ)) (zs_Qi 1 D cA ad A q) 0 0 A := by
  refine Met.ofW (cc := prog_23_method_11_code) (maxL := 3) (ret := (some .int)) (by decide) rfl ?_
  intro p e s m args below meth c s₁ B hml hv
  obtain ⟨hargs, hP, hK, hD, hZ⟩ := hv
  have G : zs_G 1 p s m args c prog_23_method_11_code 3 "jdk/internal/util/Preconditions" D cA ad A := ⟨⟨B.exec, B.bytes, hml, findClass_of_methodNamed B.named, fun w h => atoms_spec B.pre w (List.mem_cons_of_mem _ h)⟩, hK, hJ, hZ⟩
  have hw : zs_I 1 D cA ad A s σ s.heap [] := ⟨hP, hD, va_S.rf⟩
  have hx := G.1.1
  have hb := G.1.2.1
  have hown := G.1.2.2.2.1
  have hts := G.1.2.2.2.2
  have hr := B.returns
  have hlocks := B.notSynchronized
  have he : entryFrame m args 3 = F0 m 0 ((lg_sl [.int x0, .int x1, .null] ++ List.replicate (3 - (lg_sl [.int x0, .int x1, .null]).length) Slot.unset).toArray) [] := by rw [hargs]; exact lg_entry_eq m _ 3
  have hl := lv_entry [.int x0, .int x1, .null] (n := 3) (Nat.le_of_ble_eq_true rfl)
  rw [he]
  generalize (lg_sl [.int x0, .int x1, .null] ++ List.replicate (3 - (lg_sl [.int x0, .int x1, .null]).length) Slot.unset).toArray = ls at hl
  have hl : lv_has ls 3 [(0, .int x0), (1, .int x1), (2, .null)] := hl
  obtain ⟨RR, hR⟩ : ∃ z, z = (headSpec (.code y_Preconditions_checkIndex1 prog_23_method_11_code 3 (some .int) :: zd_ww) { frames := 0, cells := 0, slots := 0, locals := 0 }).room := ⟨_, rfl⟩
  rw [← hR]
  obtain ⟨QQ, hQ⟩ : ∃ z, z = MQ below (zs_Qi 1 D cA ad A q) args s 0 0 A := ⟨_, rfl⟩
  rw [← hQ]
  have hR1 : 0 ≤ RR.frames := by rw [hR]; exact Nat.le_refl _
  have hR2 : 0 ≤ RR.locals := by rw [hR]; exact Nat.le_refl _
  generalize s.heap = H at hw ⊢
  generalize ([] : List Loc) = locs at hw ⊢
  have K9 : ∀ (σ : zs_S) (H : Heap) (locs : List Loc) (ls : Array Slot), zf_Preconditions_checkIndex1n_9 F σ = some q → zs_I 1 D cA ad A s σ H locs → lv_has ls 3 [] → W p l e RR s m args below meth c H locs 0 0 QQ (F0 m 9 ls []) := by
    intro   σ H locs ls hf hw hl
    unfold zf_Preconditions_checkIndex1n_9 at hf
    exact nomatch (show (none : Option (Int32 × zs_S)) = some q from hf)
  unfold zf_Preconditions_checkIndex1n at hf
  refine lv_iload_n hx hb d_Preconditions_checkIndex1_0 rfl (lv_at hl 0 rfl) ?_
  refine lv_if_lt hx hb d_Preconditions_checkIndex1_1 (tgt := 9) rfl (fun hc => ?_) (fun hc => ?_)
  · have hf := (if_pos hc).symm.trans hf
    exact K9 σ H locs ls hf hw (lv_sub hl [] rfl)
  · have hf := (if_neg hc).symm.trans hf
    refine lv_iload_n hx hb d_Preconditions_checkIndex1_4 rfl (lv_at hl 0 rfl) ?_
    refine lv_iload_n hx hb d_Preconditions_checkIndex1_5 rfl (lv_at hl 1 rfl) ?_
    refine lv_icmp_lt hx hb d_Preconditions_checkIndex1_6 (tgt := 16) rfl (fun hc => ?_) (fun hc => ?_)
    · have hf := (if_pos hc).symm.trans hf
      refine lv_iload_n hx hb d_Preconditions_checkIndex1_16 rfl (lv_at hl 0 rfl) ?_
      exact zr_iret G hw hr hlocks hf hQ d_Preconditions_checkIndex1_17
    · have hf := (if_neg hc).symm.trans hf
      exact K9 σ H locs ls hf hw (lv_sub hl [] rfl)
set_option maxHeartbeats 4000000 in
set_option maxRecDepth 100000 in
theorem zc_Preconditions_checkIndex1r {l : Launch} {D : va_G} {cA : Nat → ClassId} {ad : Nat → Nat} {A : Nat → Prop} {aa : Nat} {F : Nat} {x0 : Int32} {x1 : Int32} {σ : zs_S} {q : Int32 × zs_S} (hJ : zs_J ad) (hf : zf_Preconditions_checkIndex1n F x0 x1 σ = some q) : Met l y_Preconditions_checkIndex1 (.code y_Preconditions_checkIndex1 prog_23_method_11_code 3 (some .int) :: zd_ww) { frames := 0, cells := 0, slots := 0, locals := 0 } (va_Pc [.int x0, .int x1, .ref aa] (zs_U 1 D cA ad A σ)) (zs_Qi 1 D cA ad A q) 0 0 A := by
  refine Met.ofW (cc := prog_23_method_11_code) (maxL := 3) (ret := (some .int)) (by decide) rfl ?_
  intro p e s m args below meth c s₁ B hml hv
  obtain ⟨hargs, hP, hK, hD, hZ⟩ := hv
  have G : zs_G 1 p s m args c prog_23_method_11_code 3 "jdk/internal/util/Preconditions" D cA ad A := ⟨⟨B.exec, B.bytes, hml, findClass_of_methodNamed B.named, fun w h => atoms_spec B.pre w (List.mem_cons_of_mem _ h)⟩, hK, hJ, hZ⟩
  have hw : zs_I 1 D cA ad A s σ s.heap [] := ⟨hP, hD, va_S.rf⟩
  have hx := G.1.1
  have hb := G.1.2.1
  have hown := G.1.2.2.2.1
  have hts := G.1.2.2.2.2
  have hr := B.returns
  have hlocks := B.notSynchronized
  have he : entryFrame m args 3 = F0 m 0 ((lg_sl [.int x0, .int x1, .ref aa] ++ List.replicate (3 - (lg_sl [.int x0, .int x1, .ref aa]).length) Slot.unset).toArray) [] := by rw [hargs]; exact lg_entry_eq m _ 3
  have hl := lv_entry [.int x0, .int x1, .ref aa] (n := 3) (Nat.le_of_ble_eq_true rfl)
  rw [he]
  generalize (lg_sl [.int x0, .int x1, .ref aa] ++ List.replicate (3 - (lg_sl [.int x0, .int x1, .ref aa]).length) Slot.unset).toArray = ls at hl
  have hl : lv_has ls 3 [(0, .int x0), (1, .int x1), (2, .ref aa)] := hl
  obtain ⟨RR, hR⟩ : ∃ z, z = (headSpec (.code y_Preconditions_checkIndex1 prog_23_method_11_code 3 (some .int) :: zd_ww) { frames := 0, cells := 0, slots := 0, locals := 0 }).room := ⟨_, rfl⟩
  rw [← hR]
  obtain ⟨QQ, hQ⟩ : ∃ z, z = MQ below (zs_Qi 1 D cA ad A q) args s 0 0 A := ⟨_, rfl⟩
  rw [← hQ]
  have hR1 : 0 ≤ RR.frames := by rw [hR]; exact Nat.le_refl _
  have hR2 : 0 ≤ RR.locals := by rw [hR]; exact Nat.le_refl _
  generalize s.heap = H at hw ⊢
  generalize ([] : List Loc) = locs at hw ⊢
  have K9 : ∀ (σ : zs_S) (H : Heap) (locs : List Loc) (ls : Array Slot), zf_Preconditions_checkIndex1n_9 F σ = some q → zs_I 1 D cA ad A s σ H locs → lv_has ls 3 [] → W p l e RR s m args below meth c H locs 0 0 QQ (F0 m 9 ls []) := by
    intro   σ H locs ls hf hw hl
    unfold zf_Preconditions_checkIndex1n_9 at hf
    exact nomatch (show (none : Option (Int32 × zs_S)) = some q from hf)
  unfold zf_Preconditions_checkIndex1n at hf
  refine lv_iload_n hx hb d_Preconditions_checkIndex1_0 rfl (lv_at hl 0 rfl) ?_
  refine lv_if_lt hx hb d_Preconditions_checkIndex1_1 (tgt := 9) rfl (fun hc => ?_) (fun hc => ?_)
  · have hf := (if_pos hc).symm.trans hf
    exact K9 σ H locs ls hf hw (lv_sub hl [] rfl)
  · have hf := (if_neg hc).symm.trans hf
    refine lv_iload_n hx hb d_Preconditions_checkIndex1_4 rfl (lv_at hl 0 rfl) ?_
    refine lv_iload_n hx hb d_Preconditions_checkIndex1_5 rfl (lv_at hl 1 rfl) ?_
    refine lv_icmp_lt hx hb d_Preconditions_checkIndex1_6 (tgt := 16) rfl (fun hc => ?_) (fun hc => ?_)
    · have hf := (if_pos hc).symm.trans hf
      refine lv_iload_n hx hb d_Preconditions_checkIndex1_16 rfl (lv_at hl 0 rfl) ?_
      exact zr_iret G hw hr hlocks hf hQ d_Preconditions_checkIndex1_17
    · have hf := (if_neg hc).symm.trans hf
      exact K9 σ H locs ls hf hw (lv_sub hl [] rfl)
/-! java/lang/String.checkIndex -/
def y_String_checkIndex1 : MethodName := ⟨"java/lang/String","checkIndex","(II)V"⟩
theorem d_String_checkIndex1_0 : decode prog_18_method_155_code 0 = .ok (.iload_n 0, 1) := by decide +kernel
theorem d_String_checkIndex1_1 : decode prog_18_method_155_code 1 = .ok (.iload_n 1, 1) := by decide +kernel
theorem d_String_checkIndex1_2 : decode prog_18_method_155_code 2 = .ok (.getstatic 1053, 3) := by decide +kernel
theorem d_String_checkIndex1_5 : decode prog_18_method_155_code 5 = .ok (.invokestatic 1059, 3) := by decide +kernel
theorem d_String_checkIndex1_8 : decode prog_18_method_155_code 8 = .ok (.pop, 1) := by decide +kernel
theorem d_String_checkIndex1_9 : decode prog_18_method_155_code 9 = .ok (.return_, 1) := by decide +kernel
def zf_String_checkIndex1 (F : Nat) (x0 : Int32) (x1 : Int32) (σ : zs_S) : Option (zs_S) :=
  zq_c (zf_Preconditions_checkIndex1n F x0 x1 σ) fun r2 σ1 =>
  some σ1
set_option maxHeartbeats 4000000 in
set_option maxRecDepth 100000 in
theorem zc_String_checkIndex1 {l : Launch} {D : va_G} {cA : Nat → ClassId} {ad : Nat → Nat} {A : Nat → Prop} {F : Nat} {x0 : Int32} {x1 : Int32} {σ : zs_S} {q : zs_S} (hJ : zs_J ad) (hf : zf_String_checkIndex1 F x0 x1 σ = some q) : Met l y_String_checkIndex1 (.code y_String_checkIndex1 prog_18_method_155_code 2 none :: zd_ww) { frames := 1, cells := 0, slots := 0, locals := 22 } (va_Pc [.int x0, .int x1] (zs_U 1 D cA ad A σ)) (zs_Qv 1 D cA ad A q) 0 0 A := by
  refine Met.ofW (cc := prog_18_method_155_code) (maxL := 2) (ret := none) (by decide) rfl ?_
  intro p e s m args below meth c s₁ B hml hv
  obtain ⟨hargs, hP, hK, hD, hZ⟩ := hv
  have G : zs_G 1 p s m args c prog_18_method_155_code 2 "java/lang/String" D cA ad A := ⟨⟨B.exec, B.bytes, hml, findClass_of_methodNamed B.named, fun w h => atoms_spec B.pre w (List.mem_cons_of_mem _ h)⟩, hK, hJ, hZ⟩
  have hw : zs_I 1 D cA ad A s σ s.heap [] := ⟨hP, hD, va_S.rf⟩
  have hx := G.1.1
  have hb := G.1.2.1
  have hown := G.1.2.2.2.1
  have hts := G.1.2.2.2.2
  have hr := B.returns
  have hlocks := B.notSynchronized
  have he : entryFrame m args 2 = F0 m 0 ((lg_sl [.int x0, .int x1] ++ List.replicate (2 - (lg_sl [.int x0, .int x1]).length) Slot.unset).toArray) [] := by rw [hargs]; exact lg_entry_eq m _ 2
  have hl := lv_entry [.int x0, .int x1] (n := 2) (Nat.le_of_ble_eq_true rfl)
  rw [he]
  generalize (lg_sl [.int x0, .int x1] ++ List.replicate (2 - (lg_sl [.int x0, .int x1]).length) Slot.unset).toArray = ls at hl
  have hl : lv_has ls 2 [(0, .int x0), (1, .int x1)] := hl
  obtain ⟨RR, hR⟩ : ∃ z, z = (headSpec (.code y_String_checkIndex1 prog_18_method_155_code 2 none :: zd_ww) { frames := 1, cells := 0, slots := 0, locals := 22 }).room := ⟨_, rfl⟩
  rw [← hR]
  obtain ⟨QQ, hQ⟩ : ∃ z, z = MQ below (zs_Qv 1 D cA ad A q) args s 0 0 A := ⟨_, rfl⟩
  rw [← hQ]
  have hR1 : 1 ≤ RR.frames := by rw [hR]; exact Nat.le_refl _
  have hR2 : 22 ≤ RR.locals := by rw [hR]; exact Nat.le_refl _
  generalize s.heap = H at hw ⊢
  generalize ([] : List Loc) = locs at hw ⊢
  unfold zf_String_checkIndex1 at hf
  refine lv_iload_n hx hb d_String_checkIndex1_0 rfl (lv_at hl 0 rfl) ?_
  refine lv_iload_n hx hb d_String_checkIndex1_1 rfl (lv_at hl 1 rfl) ?_
  rcases (G.2.2.2.2 rfl).2.2.2 with hq | ⟨aa, hq⟩
  · refine va_gets (C := "jdk/internal/util/Preconditions") (n := "SIOOBE_FORMATTER") (d := "Ljava/util/function/BiFunction;") (v := .null) hx hb hq hw.2.2 hown (hts _ zm_519) (fun _ h => h) d_String_checkIndex1_2 ?_
    obtain ⟨r2, σ1, hc3, hf⟩ := zq_cs hf
    refine zr_ci hw (zr_runS (rest := []) G hw [.int x0, .int x1, .null] (zc_Preconditions_checkIndex1n hJ hc3) (va_cwS 3 hts (zs_gS zm_521 zm_522 zm_523 zm_520) rfl rfl rfl (by decide +kernel) ⟨Nat.le_trans (by decide) hR1, Nat.le_trans (by decide) hR2⟩) rfl hl.1 (Nat.le_of_ble_eq_true rfl) d_String_checkIndex1_5 ⟨Nat.zero_le _, Nat.zero_le _⟩) (fun H locs hw => ?_)
    refine lv_pop hx hb d_String_checkIndex1_8 rfl ?_
    exact zr_vret G hw hr hlocks hf hQ d_String_checkIndex1_9
  · refine va_gets (C := "jdk/internal/util/Preconditions") (n := "SIOOBE_FORMATTER") (d := "Ljava/util/function/BiFunction;") (v := .ref aa) hx hb hq hw.2.2 hown (hts _ zm_519) (fun _ h => h) d_String_checkIndex1_2 ?_
    obtain ⟨r2, σ1, hc3, hf⟩ := zq_cs hf
    refine zr_ci hw (zr_runS (rest := []) G hw [.int x0, .int x1, .ref aa] (zc_Preconditions_checkIndex1r hJ hc3) (va_cwS 3 hts (zs_gS zm_521 zm_522 zm_523 zm_520) rfl rfl rfl (by decide +kernel) ⟨Nat.le_trans (by decide) hR1, Nat.le_trans (by decide) hR2⟩) rfl hl.1 (Nat.le_of_ble_eq_true rfl) d_String_checkIndex1_5 ⟨Nat.zero_le _, Nat.zero_le _⟩) (fun H locs hw => ?_)
    refine lv_pop hx hb d_String_checkIndex1_8 rfl ?_
    exact zr_vret G hw hr hlocks hf hQ d_String_checkIndex1_9
/-! java/lang/String.coder -/
def y_String_coder1 : MethodName := ⟨"java/lang/String","coder","()B"⟩
theorem d_String_coder1_0 : decode prog_18_method_152_code 0 = .ok (.getstatic 38, 3) := by decide +kernel
theorem d_String_coder1_3 : decode prog_18_method_152_code 3 = .ok (.ifCond .eq 10, 3) := by decide +kernel
theorem d_String_coder1_6 : decode prog_18_method_152_code 6 = .ok (.aload_n 0, 1) := by decide +kernel
theorem d_String_coder1_7 : decode prog_18_method_152_code 7 = .ok (.getfield 15, 3) := by decide +kernel
theorem d_String_coder1_10 : decode prog_18_method_152_code 10 = .ok (.goto 4, 3) := by decide +kernel
theorem d_String_coder1_13 : decode prog_18_method_152_code 13 = .ok (.iconst 1, 1) := by decide +kernel
theorem d_String_coder1_14 : decode prog_18_method_152_code 14 = .ok (.ireturn, 1) := by decide +kernel
def zf_String_coder1_14 (F : Nat)  (t0 : Int32) (σ : zs_S) : Option (Int32 × zs_S) :=
  zq_g (zq_nb t0) <|
  some (t0, σ)
def zf_String_coder1 (F : Nat) (x0 : Nat) (σ : zs_S) : Option (Int32 × zs_S) :=
  if (1 : Int32) = 0 then (
    zf_String_coder1_14 F 1 σ
  ) else (
    zq_g (zq_s x0) <|
    zf_String_coder1_14 F 0 σ
  )
set_option maxHeartbeats 4000000 in
set_option maxRecDepth 100000 in
theorem zc_String_coder1 {l : Launch} {D : va_G} {cA : Nat → ClassId} {ad : Nat → Nat} {A : Nat → Prop} {F : Nat} {x0 : Nat} {σ : zs_S} {q : Int32 × zs_S} (hJ : zs_J ad) (hf : zf_String_coder1 F x0 σ = some q) : Met l y_String_coder1 (.code y_String_coder1 prog_18_method_152_code 1 (some .byte) :: zd_ww) { frames := 0, cells := 0, slots := 0, locals := 0 } (va_Pc [.ref (ad x0)] (zs_U 1 D cA ad A σ)) (zs_Qi 1 D cA ad A q) 0 0 A := by
  refine Met.ofW (cc := prog_18_method_152_code) (maxL := 1) (ret := (some .byte)) (by decide) rfl ?_
  intro p e s m args below meth c s₁ B hml hv
  obtain ⟨hargs, hP, hK, hD, hZ⟩ := hv
  have G : zs_G 1 p s m args c prog_18_method_152_code 1 "java/lang/String" D cA ad A := ⟨⟨B.exec, B.bytes, hml, findClass_of_methodNamed B.named, fun w h => atoms_spec B.pre w (List.mem_cons_of_mem _ h)⟩, hK, hJ, hZ⟩
  have hw : zs_I 1 D cA ad A s σ s.heap [] := ⟨hP, hD, va_S.rf⟩
  have hx := G.1.1
  have hb := G.1.2.1
  have hown := G.1.2.2.2.1
  have hts := G.1.2.2.2.2
  have hr := B.returns
  have hlocks := B.notSynchronized
  have he : entryFrame m args 1 = F0 m 0 ((lg_sl [.ref (ad x0)] ++ List.replicate (1 - (lg_sl [.ref (ad x0)]).length) Slot.unset).toArray) [] := by rw [hargs]; exact lg_entry_eq m _ 1
  have hl := lv_entry [.ref (ad x0)] (n := 1) (Nat.le_of_ble_eq_true rfl)
  rw [he]
  generalize (lg_sl [.ref (ad x0)] ++ List.replicate (1 - (lg_sl [.ref (ad x0)]).length) Slot.unset).toArray = ls at hl
  have hl : lv_has ls 1 [(0, .ref (ad x0))] := hl
  obtain ⟨RR, hR⟩ : ∃ z, z = (headSpec (.code y_String_coder1 prog_18_method_152_code 1 (some .byte) :: zd_ww) { frames := 0, cells := 0, slots := 0, locals := 0 }).room := ⟨_, rfl⟩
  rw [← hR]
  obtain ⟨QQ, hQ⟩ : ∃ z, z = MQ below (zs_Qi 1 D cA ad A q) args s 0 0 A := ⟨_, rfl⟩
  rw [← hQ]
  have hR1 : 0 ≤ RR.frames := by rw [hR]; exact Nat.le_refl _
  have hR2 : 0 ≤ RR.locals := by rw [hR]; exact Nat.le_refl _
  generalize s.heap = H at hw ⊢
  generalize ([] : List Loc) = locs at hw ⊢
  have K14 : ∀ (t0 : Int32) (σ : zs_S) (H : Heap) (locs : List Loc) (ls : Array Slot), zf_String_coder1_14 F t0 σ = some q → zs_I 1 D cA ad A s σ H locs → lv_has ls 1 [] → W p l e RR s m args below meth c H locs 0 0 QQ (F0 m 14 ls [.int t0]) := by
    intro  t0 σ H locs ls hf hw hl
    unfold zf_String_coder1_14 at hf
    obtain ⟨hz, hf⟩ := zq_gs hf
    exact zr_nret G hw hr hlocks (zq_nbs hz) hf hQ d_String_coder1_14
  unfold zf_String_coder1 at hf
  refine va_gets (C := "java/lang/String") (n := "COMPACT_STRINGS") (d := "Z") (v := .int 1) hx hb (G.2.2.2.2 rfl).2.1 hw.2.2 hown (hts _ zm_524) (fun _ h => h) d_String_coder1_0 ?_
  refine lv_if_eq hx hb d_String_coder1_3 (tgt := 13) rfl (fun hc => ?_) (fun hc => ?_)
  · have hf := (if_pos hc).symm.trans hf
    refine lv_iconst (v := 1) hx hb d_String_coder1_13 (by decide) ?_
    exact K14 1 σ H locs ls hf hw (lv_sub hl [] rfl)
  · have hf := (if_neg hc).symm.trans hf
    refine lv_aload_n hx hb d_String_coder1_6 rfl (lv_at hl 0 rfl) ?_
    obtain ⟨ht1, hf⟩ := zq_gs hf
    refine zr_scod G hw ht1 zm_525 d_String_coder1_7 ?_
    refine lv_goto hx hb d_String_coder1_10 (tgt := 14) rfl ?_
    exact K14 0 σ H locs ls hf hw (lv_sub hl [] rfl)
/-! java/lang/String.isLatin1 -/
def y_String_isLatin11 : MethodName := ⟨"java/lang/String","isLatin1","()Z"⟩
theorem d_String_isLatin11_0 : decode prog_18_method_154_code 0 = .ok (.getstatic 38, 3) := by decide +kernel
theorem d_String_isLatin11_3 : decode prog_18_method_154_code 3 = .ok (.ifCond .eq 14, 3) := by decide +kernel
theorem d_String_isLatin11_6 : decode prog_18_method_154_code 6 = .ok (.aload_n 0, 1) := by decide +kernel
theorem d_String_isLatin11_7 : decode prog_18_method_154_code 7 = .ok (.getfield 15, 3) := by decide +kernel
theorem d_String_isLatin11_10 : decode prog_18_method_154_code 10 = .ok (.ifCond .ne 7, 3) := by decide +kernel
theorem d_String_isLatin11_13 : decode prog_18_method_154_code 13 = .ok (.iconst 1, 1) := by decide +kernel
theorem d_String_isLatin11_14 : decode prog_18_method_154_code 14 = .ok (.goto 4, 3) := by decide +kernel
theorem d_String_isLatin11_17 : decode prog_18_method_154_code 17 = .ok (.iconst 0, 1) := by decide +kernel
theorem d_String_isLatin11_18 : decode prog_18_method_154_code 18 = .ok (.ireturn, 1) := by decide +kernel
def zf_String_isLatin11_18 (F : Nat)  (t0 : Int32) (σ : zs_S) : Option (Int32 × zs_S) :=
  zq_g (zq_z t0) <|
  some (t0, σ)
def zf_String_isLatin11_17 (F : Nat)   (σ : zs_S) : Option (Int32 × zs_S) :=
  zf_String_isLatin11_18 F 0 σ
def zf_String_isLatin11 (F : Nat) (x0 : Nat) (σ : zs_S) : Option (Int32 × zs_S) :=
  if (1 : Int32) = 0 then (
    zf_String_isLatin11_17 F σ
  ) else (
    zq_g (zq_s x0) <|
    if (0 : Int32) = 0 then (
      zf_String_isLatin11_18 F 1 σ
    ) else (
      zf_String_isLatin11_17 F σ
    )
  )
set_option maxHeartbeats 4000000 in
set_option maxRecDepth 100000 in
theorem zc_String_isLatin11 {l : Launch} {D : va_G} {cA : Nat → ClassId} {ad : Nat → Nat} {A : Nat → Prop} {F : Nat} {x0 : Nat} {σ : zs_S} {q : Int32 × zs_S} (hJ : zs_J ad) (hf : zf_String_isLatin11 F x0 σ = some q) : Met l y_String_isLatin11 (.code y_String_isLatin11 prog_18_method_154_code 1 (some .boolean) :: zd_ww) { frames := 0, cells := 0, slots := 0, locals := 0 } (va_Pc [.ref (ad x0)] (zs_U 1 D cA ad A σ)) (zs_Qi 1 D cA ad A q) 0 0 A := by
  refine Met.ofW (cc := prog_18_method_154_code) (maxL := 1) (ret := (some .boolean)) (by decide) rfl ?_
  intro p e s m args below meth c s₁ B hml hv
  obtain ⟨hargs, hP, hK, hD, hZ⟩ := hv
  have G : zs_G 1 p s m args c prog_18_method_154_code 1 "java/lang/String" D cA ad A := ⟨⟨B.exec, B.bytes, hml, findClass_of_methodNamed B.named, fun w h => atoms_spec B.pre w (List.mem_cons_of_mem _ h)⟩, hK, hJ, hZ⟩
  have hw : zs_I 1 D cA ad A s σ s.heap [] := ⟨hP, hD, va_S.rf⟩
  have hx := G.1.1
  have hb := G.1.2.1
  have hown := G.1.2.2.2.1
  have hts := G.1.2.2.2.2
  have hr := B.returns
  have hlocks := B.notSynchronized
  have he : entryFrame m args 1 = F0 m 0 ((lg_sl [.ref (ad x0)] ++ List.replicate (1 - (lg_sl [.ref (ad x0)]).length) Slot.unset).toArray) [] := by rw [hargs]; exact lg_entry_eq m _ 1
  have hl := lv_entry [.ref (ad x0)] (n := 1) (Nat.le_of_ble_eq_true rfl)
  rw [he]
  generalize (lg_sl [.ref (ad x0)] ++ List.replicate (1 - (lg_sl [.ref (ad x0)]).length) Slot.unset).toArray = ls at hl
  have hl : lv_has ls 1 [(0, .ref (ad x0))] := hl
  obtain ⟨RR, hR⟩ : ∃ z, z = (headSpec (.code y_String_isLatin11 prog_18_method_154_code 1 (some .boolean) :: zd_ww) { frames := 0, cells := 0, slots := 0, locals := 0 }).room := ⟨_, rfl⟩
  rw [← hR]
  obtain ⟨QQ, hQ⟩ : ∃ z, z = MQ below (zs_Qi 1 D cA ad A q) args s 0 0 A := ⟨_, rfl⟩
  rw [← hQ]
  have hR1 : 0 ≤ RR.frames := by rw [hR]; exact Nat.le_refl _
  have hR2 : 0 ≤ RR.locals := by rw [hR]; exact Nat.le_refl _
  generalize s.heap = H at hw ⊢
  generalize ([] : List Loc) = locs at hw ⊢
  have K18 : ∀ (t0 : Int32) (σ : zs_S) (H : Heap) (locs : List Loc) (ls : Array Slot), zf_String_isLatin11_18 F t0 σ = some q → zs_I 1 D cA ad A s σ H locs → lv_has ls 1 [] → W p l e RR s m args below meth c H locs 0 0 QQ (F0 m 18 ls [.int t0]) := by
    intro  t0 σ H locs ls hf hw hl
    unfold zf_String_isLatin11_18 at hf
    obtain ⟨hz, hf⟩ := zq_gs hf
    exact zr_zret G hw hr hlocks hz hf hQ d_String_isLatin11_18
  have K17 : ∀ (σ : zs_S) (H : Heap) (locs : List Loc) (ls : Array Slot), zf_String_isLatin11_17 F σ = some q → zs_I 1 D cA ad A s σ H locs → lv_has ls 1 [] → W p l e RR s m args below meth c H locs 0 0 QQ (F0 m 17 ls []) := by
    intro   σ H locs ls hf hw hl
    unfold zf_String_isLatin11_17 at hf
    refine lv_iconst (v := 0) hx hb d_String_isLatin11_17 (by decide) ?_
    exact K18 0 σ H locs ls hf hw (lv_sub hl [] rfl)
  unfold zf_String_isLatin11 at hf
  refine va_gets (C := "java/lang/String") (n := "COMPACT_STRINGS") (d := "Z") (v := .int 1) hx hb (G.2.2.2.2 rfl).2.1 hw.2.2 hown (hts _ zm_524) (fun _ h => h) d_String_isLatin11_0 ?_
  refine lv_if_eq hx hb d_String_isLatin11_3 (tgt := 17) rfl (fun hc => ?_) (fun hc => ?_)
  · have hf := (if_pos hc).symm.trans hf
    exact K17 σ H locs ls hf hw (lv_sub hl [] rfl)
  · have hf := (if_neg hc).symm.trans hf
    refine lv_aload_n hx hb d_String_isLatin11_6 rfl (lv_at hl 0 rfl) ?_
    obtain ⟨ht1, hf⟩ := zq_gs hf
    refine zr_scod G hw ht1 zm_525 d_String_isLatin11_7 ?_
    refine lv_if_ne hx hb d_String_isLatin11_10 (tgt := 17) rfl (fun hc => ?_) (fun hc => ?_)
    · have hf := (if_neg hc).symm.trans hf
      exact K17 σ H locs ls hf hw (lv_sub hl [] rfl)
    · have hf := (if_pos hc).symm.trans hf
      refine lv_iconst (v := 1) hx hb d_String_isLatin11_13 (by decide) ?_
      refine lv_goto hx hb d_String_isLatin11_14 (tgt := 18) rfl ?_
      exact K18 1 σ H locs ls hf hw (lv_sub hl [] rfl)
/-! java/lang/String.length -/
def y_String_length1 : MethodName := ⟨"java/lang/String","length","()I"⟩
theorem d_String_length1_0 : decode prog_18_method_54_code 0 = .ok (.aload_n 0, 1) := by decide +kernel
theorem d_String_length1_1 : decode prog_18_method_54_code 1 = .ok (.getfield 9, 3) := by decide +kernel
theorem d_String_length1_4 : decode prog_18_method_54_code 4 = .ok (.arraylength, 1) := by decide +kernel
theorem d_String_length1_5 : decode prog_18_method_54_code 5 = .ok (.aload_n 0, 1) := by decide +kernel
theorem d_String_length1_6 : decode prog_18_method_54_code 6 = .ok (.invokevirtual 335, 3) := by decide +kernel
theorem d_String_length1_9 : decode prog_18_method_54_code 9 = .ok (.ishr, 1) := by decide +kernel
theorem d_String_length1_10 : decode prog_18_method_54_code 10 = .ok (.ireturn, 1) := by decide +kernel
def zf_String_length1 (F : Nat) (x0 : Nat) (σ : zs_S) : Option (Int32 × zs_S) :=
  zq_g (zq_s x0) <|
  zq_g (zq_sv (x0 + 100)) <|
  zq_g (zq_s x0) <|
  zq_c (zf_String_coder1 F x0 σ) fun r4 σ3 =>
  some ((nI (zd_sln (x0 + 100))) >>> (r4 &&& 31), σ3)
set_option maxHeartbeats 4000000 in
set_option maxRecDepth 100000 in
theorem zc_String_length1 {l : Launch} {D : va_G} {cA : Nat → ClassId} {ad : Nat → Nat} {A : Nat → Prop} {F : Nat} {x0 : Nat} {σ : zs_S} {q : Int32 × zs_S} (hJ : zs_J ad) (hf : zf_String_length1 F x0 σ = some q) : Met l y_String_length1 (.code y_String_length1 prog_18_method_54_code 1 (some .int) :: zd_ww) { frames := 1, cells := 0, slots := 0, locals := 20 } (va_Pc [.ref (ad x0)] (zs_U 1 D cA ad A σ)) (zs_Qi 1 D cA ad A q) 0 0 A := by
  refine Met.ofW (cc := prog_18_method_54_code) (maxL := 1) (ret := (some .int)) (by decide) rfl ?_
  intro p e s m args below meth c s₁ B hml hv
  obtain ⟨hargs, hP, hK, hD, hZ⟩ := hv
  have G : zs_G 1 p s m args c prog_18_method_54_code 1 "java/lang/String" D cA ad A := ⟨⟨B.exec, B.bytes, hml, findClass_of_methodNamed B.named, fun w h => atoms_spec B.pre w (List.mem_cons_of_mem _ h)⟩, hK, hJ, hZ⟩
  have hw : zs_I 1 D cA ad A s σ s.heap [] := ⟨hP, hD, va_S.rf⟩
  have hx := G.1.1
  have hb := G.1.2.1
  have hown := G.1.2.2.2.1
  have hts := G.1.2.2.2.2
  have hr := B.returns
  have hlocks := B.notSynchronized
  have he : entryFrame m args 1 = F0 m 0 ((lg_sl [.ref (ad x0)] ++ List.replicate (1 - (lg_sl [.ref (ad x0)]).length) Slot.unset).toArray) [] := by rw [hargs]; exact lg_entry_eq m _ 1
  have hl := lv_entry [.ref (ad x0)] (n := 1) (Nat.le_of_ble_eq_true rfl)
  rw [he]
  generalize (lg_sl [.ref (ad x0)] ++ List.replicate (1 - (lg_sl [.ref (ad x0)]).length) Slot.unset).toArray = ls at hl
  have hl : lv_has ls 1 [(0, .ref (ad x0))] := hl
  obtain ⟨RR, hR⟩ : ∃ z, z = (headSpec (.code y_String_length1 prog_18_method_54_code 1 (some .int) :: zd_ww) { frames := 1, cells := 0, slots := 0, locals := 20 }).room := ⟨_, rfl⟩
  rw [← hR]
  obtain ⟨QQ, hQ⟩ : ∃ z, z = MQ below (zs_Qi 1 D cA ad A q) args s 0 0 A := ⟨_, rfl⟩
  rw [← hQ]
  have hR1 : 1 ≤ RR.frames := by rw [hR]; exact Nat.le_refl _
  have hR2 : 20 ≤ RR.locals := by rw [hR]; exact Nat.le_refl _
  generalize s.heap = H at hw ⊢
  generalize ([] : List Loc) = locs at hw ⊢
  unfold zf_String_length1 at hf
  refine lv_aload_n hx hb d_String_length1_0 rfl (lv_at hl 0 rfl) ?_
  obtain ⟨ht1, hf⟩ := zq_gs hf
  refine zr_sval G hw ht1 zm_526 d_String_length1_1 ?_
  obtain ⟨ht2, hf⟩ := zq_gs hf
  refine zr_slen G hw ht2 d_String_length1_4 ?_
  refine lv_aload_n hx hb d_String_length1_5 rfl (lv_at hl 0 rfl) ?_
  obtain ⟨ht6, hf⟩ := zq_gs hf
  obtain ⟨r4, σ3, hc5, hf⟩ := zq_cs hf
  refine zr_ci hw (zr_runR (rest := [.int (nI (zd_sln (x0 + 100)))]) (C := "java/lang/String") (o := x0) G hw [] (zc_String_coder1 hJ hc5) (cwV 0 hts (zs_gV zm_528 zm_529 zm_530 zm_531 zm_527) rfl rfl rfl (by decide +kernel) ⟨Nat.le_trans (by decide) hR1, Nat.le_trans (by decide) hR2⟩) (zr_str G hw ht6) rfl hl.1 (Nat.le_of_ble_eq_true rfl) d_String_length1_6 ⟨Nat.zero_le _, Nat.zero_le _⟩) (fun H locs hw => ?_)
  refine lv_ishr hx hb d_String_length1_9 ?_
  exact zr_iret G hw hr hlocks hf hQ d_String_length1_10
/-! java/lang/StringLatin1.charAt -/
def y_StringLatin1_charAt1 : MethodName := ⟨"java/lang/StringLatin1","charAt","([BI)C"⟩
theorem d_StringLatin1_charAt1_0 : decode prog_19_method_2_code 0 = .ok (.iload_n 1, 1) := by decide +kernel
theorem d_StringLatin1_charAt1_1 : decode prog_19_method_2_code 1 = .ok (.aload_n 0, 1) := by decide +kernel
theorem d_StringLatin1_charAt1_2 : decode prog_19_method_2_code 2 = .ok (.arraylength, 1) := by decide +kernel
theorem d_StringLatin1_charAt1_3 : decode prog_19_method_2_code 3 = .ok (.invokestatic 9, 3) := by decide +kernel
theorem d_StringLatin1_charAt1_6 : decode prog_19_method_2_code 6 = .ok (.aload_n 0, 1) := by decide +kernel
theorem d_StringLatin1_charAt1_7 : decode prog_19_method_2_code 7 = .ok (.iload_n 1, 1) := by decide +kernel
theorem d_StringLatin1_charAt1_8 : decode prog_19_method_2_code 8 = .ok (.baload, 1) := by decide +kernel
theorem d_StringLatin1_charAt1_9 : decode prog_19_method_2_code 9 = .ok (.sipush 255, 3) := by decide +kernel
theorem d_StringLatin1_charAt1_12 : decode prog_19_method_2_code 12 = .ok (.iand, 1) := by decide +kernel
theorem d_StringLatin1_charAt1_13 : decode prog_19_method_2_code 13 = .ok (.i2c, 1) := by decide +kernel
theorem d_StringLatin1_charAt1_14 : decode prog_19_method_2_code 14 = .ok (.ireturn, 1) := by decide +kernel
def zf_StringLatin1_charAt1 (F : Nat) (x0 : Nat) (x1 : Int32) (σ : zs_S) : Option (Int32 × zs_S) :=
  zq_g (zq_sv x0) <|
  zq_d (zf_String_checkIndex1 F x1 (nI (zd_sln x0)) σ) fun σ2 =>
  zq_g (zq_sv x0) <|
  zq_g (zq_b x1 (zd_sln x0)) <|
  zq_g (zq_nc (((((zd_sby x0 (x1).toNatClampNeg) &&& 255 : Int32)).toUInt32 % 65536).toInt32)) <|
  some (((((zd_sby x0 (x1).toNatClampNeg) &&& 255 : Int32)).toUInt32 % 65536).toInt32, σ2)
set_option maxHeartbeats 4000000 in
set_option maxRecDepth 100000 in
theorem zc_StringLatin1_charAt1 {l : Launch} {D : va_G} {cA : Nat → ClassId} {ad : Nat → Nat} {A : Nat → Prop} {F : Nat} {x0 : Nat} {x1 : Int32} {σ : zs_S} {q : Int32 × zs_S} (hJ : zs_J ad) (hf : zf_StringLatin1_charAt1 F x0 x1 σ = some q) : Met l y_StringLatin1_charAt1 (.code y_StringLatin1_charAt1 prog_19_method_2_code 2 (some .char) :: zd_ww) { frames := 2, cells := 0, slots := 0, locals := 43 } (va_Pc [.ref (ad x0), .int x1] (zs_U 1 D cA ad A σ)) (zs_Qi 1 D cA ad A q) 0 0 A := by
  refine Met.ofW (cc := prog_19_method_2_code) (maxL := 2) (ret := (some .char)) (by decide) rfl ?_
  intro p e s m args below meth c s₁ B hml hv
  obtain ⟨hargs, hP, hK, hD, hZ⟩ := hv
  have G : zs_G 1 p s m args c prog_19_method_2_code 2 "java/lang/StringLatin1" D cA ad A := ⟨⟨B.exec, B.bytes, hml, findClass_of_methodNamed B.named, fun w h => atoms_spec B.pre w (List.mem_cons_of_mem _ h)⟩, hK, hJ, hZ⟩
  have hw : zs_I 1 D cA ad A s σ s.heap [] := ⟨hP, hD, va_S.rf⟩
  have hx := G.1.1
  have hb := G.1.2.1
  have hown := G.1.2.2.2.1
  have hts := G.1.2.2.2.2
  have hr := B.returns
  have hlocks := B.notSynchronized
  have he : entryFrame m args 2 = F0 m 0 ((lg_sl [.ref (ad x0), .int x1] ++ List.replicate (2 - (lg_sl [.ref (ad x0), .int x1]).length) Slot.unset).toArray) [] := by rw [hargs]; exact lg_entry_eq m _ 2
  have hl := lv_entry [.ref (ad x0), .int x1] (n := 2) (Nat.le_of_ble_eq_true rfl)
  rw [he]
  generalize (lg_sl [.ref (ad x0), .int x1] ++ List.replicate (2 - (lg_sl [.ref (ad x0), .int x1]).length) Slot.unset).toArray = ls at hl
  have hl : lv_has ls 2 [(0, .ref (ad x0)), (1, .int x1)] := hl
  obtain ⟨RR, hR⟩ : ∃ z, z = (headSpec (.code y_StringLatin1_charAt1 prog_19_method_2_code 2 (some .char) :: zd_ww) { frames := 2, cells := 0, slots := 0, locals := 43 }).room := ⟨_, rfl⟩
  rw [← hR]
  obtain ⟨QQ, hQ⟩ : ∃ z, z = MQ below (zs_Qi 1 D cA ad A q) args s 0 0 A := ⟨_, rfl⟩
  rw [← hQ]
  have hR1 : 2 ≤ RR.frames := by rw [hR]; exact Nat.le_refl _
  have hR2 : 43 ≤ RR.locals := by rw [hR]; exact Nat.le_refl _
  generalize s.heap = H at hw ⊢
  generalize ([] : List Loc) = locs at hw ⊢
  unfold zf_StringLatin1_charAt1 at hf
  refine lv_iload_n hx hb d_StringLatin1_charAt1_0 rfl (lv_at hl 1 rfl) ?_
  refine lv_aload_n hx hb d_StringLatin1_charAt1_1 rfl (lv_at hl 0 rfl) ?_
  obtain ⟨ht1, hf⟩ := zq_gs hf
  refine zr_slen G hw ht1 d_StringLatin1_charAt1_2 ?_
  obtain ⟨σ2, hc4, hf⟩ := zq_ds hf
  refine zr_cv hw (zr_runS (rest := []) G hw [.int x1, .int (nI (zd_sln x0))] (zc_String_checkIndex1 hJ hc4) (va_cwS 2 hts (zs_gS zm_533 zm_534 zm_531 zm_532) rfl rfl rfl (by decide +kernel) ⟨Nat.le_trans (by decide) hR1, Nat.le_trans (by decide) hR2⟩) rfl hl.1 (Nat.le_of_ble_eq_true rfl) d_StringLatin1_charAt1_3 ⟨Nat.zero_le _, Nat.zero_le _⟩) (fun H locs hw => ?_)
  refine lv_aload_n hx hb d_StringLatin1_charAt1_6 rfl (lv_at hl 0 rfl) ?_
  refine lv_iload_n hx hb d_StringLatin1_charAt1_7 rfl (lv_at hl 1 rfl) ?_
  obtain ⟨ht5, hf⟩ := zq_gs hf
  obtain ⟨hi6, hf⟩ := zq_gs hf
  refine zr_sld G hw ht5 hi6 d_StringLatin1_charAt1_8 ?_
  refine lv_sipush (v := 255) hx hb d_StringLatin1_charAt1_9 (by decide) ?_
  refine lv_iand hx hb d_StringLatin1_charAt1_12 ?_
  refine lv_i2c hx hb d_StringLatin1_charAt1_13 rfl ?_
  obtain ⟨hz, hf⟩ := zq_gs hf
  exact zr_nret G hw hr hlocks (zq_ncs hz) hf hQ d_StringLatin1_charAt1_14
/-! java/lang/String.charAt -/
def y_String_charAt1 : MethodName := ⟨"java/lang/String","charAt","(I)C"⟩
theorem d_String_charAt1_0 : decode prog_18_method_56_code 0 = .ok (.aload_n 0, 1) := by decide +kernel
theorem d_String_charAt1_1 : decode prog_18_method_56_code 1 = .ok (.invokevirtual 492, 3) := by decide +kernel
theorem d_String_charAt1_4 : decode prog_18_method_56_code 4 = .ok (.ifCond .eq 12, 3) := by decide +kernel
theorem d_String_charAt1_7 : decode prog_18_method_56_code 7 = .ok (.aload_n 0, 1) := by decide +kernel
theorem d_String_charAt1_8 : decode prog_18_method_56_code 8 = .ok (.getfield 9, 3) := by decide +kernel
theorem d_String_charAt1_11 : decode prog_18_method_56_code 11 = .ok (.iload_n 1, 1) := by decide +kernel
theorem d_String_charAt1_12 : decode prog_18_method_56_code 12 = .ok (.invokestatic 495, 3) := by decide +kernel
theorem d_String_charAt1_15 : decode prog_18_method_56_code 15 = .ok (.ireturn, 1) := by decide +kernel
theorem d_String_charAt1_16 : decode prog_18_method_56_code 16 = .ok (.aload_n 0, 1) := by decide +kernel
theorem d_String_charAt1_17 : decode prog_18_method_56_code 17 = .ok (.getfield 9, 3) := by decide +kernel
theorem d_String_charAt1_20 : decode prog_18_method_56_code 20 = .ok (.iload_n 1, 1) := by decide +kernel
theorem d_String_charAt1_21 : decode prog_18_method_56_code 21 = .ok (.invokestatic 498, 3) := by decide +kernel
theorem d_String_charAt1_24 : decode prog_18_method_56_code 24 = .ok (.ireturn, 1) := by decide +kernel
def zf_String_charAt1 (F : Nat) (x0 : Nat) (x1 : Int32) (σ : zs_S) : Option (Int32 × zs_S) :=
  zq_g (zq_s x0) <|
  zq_c (zf_String_isLatin11 F x0 σ) fun r2 σ1 =>
  if r2 = 0 then (
    zq_g (zq_s x0) <|
    none
  ) else (
    zq_g (zq_s x0) <|
    zq_c (zf_StringLatin1_charAt1 F (x0 + 100) x1 σ1) fun r8 σ7 =>
    zq_g (zq_nc r8) <|
    some (r8, σ7)
  )
set_option maxHeartbeats 4000000 in
set_option maxRecDepth 100000 in
theorem zc_String_charAt1 {l : Launch} {D : va_G} {cA : Nat → ClassId} {ad : Nat → Nat} {A : Nat → Prop} {F : Nat} {x0 : Nat} {x1 : Int32} {σ : zs_S} {q : Int32 × zs_S} (hJ : zs_J ad) (hf : zf_String_charAt1 F x0 x1 σ = some q) : Met l y_String_charAt1 (.code y_String_charAt1 prog_18_method_56_code 2 (some .char) :: zd_ww) { frames := 3, cells := 0, slots := 0, locals := 64 } (va_Pc [.ref (ad x0), .int x1] (zs_U 1 D cA ad A σ)) (zs_Qi 1 D cA ad A q) 0 0 A := by
  refine Met.ofW (cc := prog_18_method_56_code) (maxL := 2) (ret := (some .char)) (by decide) rfl ?_
  intro p e s m args below meth c s₁ B hml hv
  obtain ⟨hargs, hP, hK, hD, hZ⟩ := hv
  have G : zs_G 1 p s m args c prog_18_method_56_code 2 "java/lang/String" D cA ad A := ⟨⟨B.exec, B.bytes, hml, findClass_of_methodNamed B.named, fun w h => atoms_spec B.pre w (List.mem_cons_of_mem _ h)⟩, hK, hJ, hZ⟩
  have hw : zs_I 1 D cA ad A s σ s.heap [] := ⟨hP, hD, va_S.rf⟩
  have hx := G.1.1
  have hb := G.1.2.1
  have hown := G.1.2.2.2.1
  have hts := G.1.2.2.2.2
  have hr := B.returns
  have hlocks := B.notSynchronized
  have he : entryFrame m args 2 = F0 m 0 ((lg_sl [.ref (ad x0), .int x1] ++ List.replicate (2 - (lg_sl [.ref (ad x0), .int x1]).length) Slot.unset).toArray) [] := by rw [hargs]; exact lg_entry_eq m _ 2
  have hl := lv_entry [.ref (ad x0), .int x1] (n := 2) (Nat.le_of_ble_eq_true rfl)
  rw [he]
  generalize (lg_sl [.ref (ad x0), .int x1] ++ List.replicate (2 - (lg_sl [.ref (ad x0), .int x1]).length) Slot.unset).toArray = ls at hl
  have hl : lv_has ls 2 [(0, .ref (ad x0)), (1, .int x1)] := hl
  obtain ⟨RR, hR⟩ : ∃ z, z = (headSpec (.code y_String_charAt1 prog_18_method_56_code 2 (some .char) :: zd_ww) { frames := 3, cells := 0, slots := 0, locals := 64 }).room := ⟨_, rfl⟩
  rw [← hR]
  obtain ⟨QQ, hQ⟩ : ∃ z, z = MQ below (zs_Qi 1 D cA ad A q) args s 0 0 A := ⟨_, rfl⟩
  rw [← hQ]
  have hR1 : 3 ≤ RR.frames := by rw [hR]; exact Nat.le_refl _
  have hR2 : 64 ≤ RR.locals := by rw [hR]; exact Nat.le_refl _
  generalize s.heap = H at hw ⊢
  generalize ([] : List Loc) = locs at hw ⊢
  unfold zf_String_charAt1 at hf
  refine lv_aload_n hx hb d_String_charAt1_0 rfl (lv_at hl 0 rfl) ?_
  obtain ⟨ht4, hf⟩ := zq_gs hf
  obtain ⟨r2, σ1, hc3, hf⟩ := zq_cs hf
  refine zr_ci hw (zr_runR (rest := []) (C := "java/lang/String") (o := x0) G hw [] (zc_String_isLatin11 hJ hc3) (cwV 0 hts (zs_gV zm_536 zm_537 zm_538 zm_531 zm_535) rfl rfl rfl (by decide +kernel) ⟨Nat.le_trans (by decide) hR1, Nat.le_trans (by decide) hR2⟩) (zr_str G hw ht4) rfl hl.1 (Nat.le_of_ble_eq_true rfl) d_String_charAt1_1 ⟨Nat.zero_le _, Nat.zero_le _⟩) (fun H locs hw => ?_)
  refine lv_if_eq hx hb d_String_charAt1_4 (tgt := 16) rfl (fun hc => ?_) (fun hc => ?_)
  · have hf := (if_pos hc).symm.trans hf
    refine lv_aload_n hx hb d_String_charAt1_16 rfl (lv_at hl 0 rfl) ?_
    obtain ⟨ht5, hf⟩ := zq_gs hf
    refine zr_sval G hw ht5 zm_526 d_String_charAt1_17 ?_
    refine lv_iload_n hx hb d_String_charAt1_20 rfl (lv_at hl 1 rfl) ?_
    exact nomatch (show (none : Option (Int32 × zs_S)) = some q from hf)
  · have hf := (if_neg hc).symm.trans hf
    refine lv_aload_n hx hb d_String_charAt1_7 rfl (lv_at hl 0 rfl) ?_
    obtain ⟨ht6, hf⟩ := zq_gs hf
    refine zr_sval G hw ht6 zm_526 d_String_charAt1_8 ?_
    refine lv_iload_n hx hb d_String_charAt1_11 rfl (lv_at hl 1 rfl) ?_
    obtain ⟨r8, σ7, hc9, hf⟩ := zq_cs hf
    refine zr_ci hw (zr_runS (rest := []) G hw [.ref (ad (x0 + 100)), .int x1] (zc_StringLatin1_charAt1 hJ hc9) (va_cwS 2 hts (zs_gS zm_540 zm_541 zm_542 zm_539) rfl rfl rfl (by decide +kernel) ⟨Nat.le_trans (by decide) hR1, Nat.le_trans (by decide) hR2⟩) rfl hl.1 (Nat.le_of_ble_eq_true rfl) d_String_charAt1_12 ⟨Nat.zero_le _, Nat.zero_le _⟩) (fun H locs hw => ?_)
    obtain ⟨hz, hf⟩ := zq_gs hf
    exact zr_nret G hw hr hlocks (zq_ncs hz) hf hQ d_String_charAt1_15
