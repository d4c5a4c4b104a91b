theorem zm_16 : Cond.fieldLink "ScheduleCheck$States" 40 "ScheduleCheck$States" "size" "I" ∈ zd_ww := zd_me 122 (by decide +kernel) (by decide +kernel)
theorem zm_17 : Cond.fieldLink "ScheduleCheck$States" 44 "ScheduleCheck$States" "stepCount" "I" ∈ zd_ww := zd_me 125 (by decide +kernel) (by decide +kernel)
theorem zm_18 : Cond.fieldLink "ScheduleCheck$States" 47 "ScheduleCheck$States" "overflows" "Z" ∈ zd_ww := zd_me 126 (by decide +kernel) (by decide +kernel)
theorem zm_19 : Cond.fieldLink "ScheduleCheck$States" 34 "ScheduleCheck$States" "buckets" "[I" ∈ zd_ww := zd_me 120 (by decide +kernel) (by decide +kernel)
theorem zm_20 : Cond.code ⟨"java/util/Arrays","fill","([II)V"⟩ prog_22_method_103_code 4 none ∈ zd_ww := zd_me 586 (by decide +kernel) (by decide +kernel)
theorem zm_21 : Cond.methodLink "ScheduleCheck$States" 51 ⟨"java/util/Arrays","fill","([II)V"⟩ ∈ zd_ww := zd_me 584 (by decide +kernel) (by decide +kernel)
theorem zm_22 : Cond.static ⟨"java/util/Arrays","fill","([II)V"⟩ ∈ zd_ww := zd_me 585 (by decide +kernel) (by decide +kernel)
theorem zm_23 : Cond.initialized "java/util/Arrays" ∈ zd_ww := zd_me 17 (by decide +kernel) (by decide +kernel)
theorem zm_24 : Cond.fieldLink "ScheduleCheck$States" 9 "ScheduleCheck$States" "cells" "[B" ∈ zd_ww := zd_me 107 (by decide +kernel) (by decide +kernel)
theorem zm_25 : Cond.methodLink "ScheduleCheck$States" 57 ⟨"java/lang/System","arraycopy","(Ljava/lang/Object;ILjava/lang/Object;II)V"⟩ ∈ zd_ww := zd_me 640 (by decide +kernel) (by decide +kernel)
theorem zm_26 : Cond.native ⟨"java/lang/System","arraycopy","(Ljava/lang/Object;ILjava/lang/Object;II)V"⟩ ∈ zd_ww := zd_me 642 (by decide +kernel) (by decide +kernel)
theorem zm_27 : Cond.static ⟨"java/lang/System","arraycopy","(Ljava/lang/Object;ILjava/lang/Object;II)V"⟩ ∈ zd_ww := zd_me 641 (by decide +kernel) (by decide +kernel)
theorem zm_28 : Cond.initialized "java/lang/System" ∈ zd_ww := zd_me 18 (by decide +kernel) (by decide +kernel)
theorem zm_29 : Cond.fieldLink "ScheduleCheck$States" 28 "ScheduleCheck$States" "stepsFrom" "[I" ∈ zd_ww := zd_me 117 (by decide +kernel) (by decide +kernel)
theorem zm_30 : Cond.fieldLink "ScheduleCheck$States" 15 "ScheduleCheck$States" "depths" "[I" ∈ zd_ww := zd_me 109 (by decide +kernel) (by decide +kernel)
theorem zm_31 : Cond.fieldLink "ScheduleCheck$States" 19 "ScheduleCheck$States" "parents" "[I" ∈ zd_ww := zd_me 111 (by decide +kernel) (by decide +kernel)
theorem zm_32 : Cond.fieldLink "ScheduleCheck$States" 22 "ScheduleCheck$States" "movers" "[I" ∈ zd_ww := zd_me 113 (by decide +kernel) (by decide +kernel)
theorem zm_33 : Cond.fieldLink "ScheduleCheck$States" 31 "ScheduleCheck$States" "hashes" "[I" ∈ zd_ww := zd_me 119 (by decide +kernel) (by decide +kernel)
theorem zm_34 : Cond.fieldLink "ScheduleCheck$States" 37 "ScheduleCheck$States" "chain" "[I" ∈ zd_ww := zd_me 121 (by decide +kernel) (by decide +kernel)
theorem zm_35 : Cond.code ⟨"ScheduleCheck$States","isBuilt","(I)Z"⟩ prog_9_method_13_code 3 (Option.some FieldType.boolean) ∈ zd_ww := zd_me 610 (by decide +kernel) (by decide +kernel)
theorem zm_36 : Cond.methodLink "ScheduleCheck$States" 75 ⟨"ScheduleCheck$States","isBuilt","(I)Z"⟩ ∈ zd_ww := zd_me 607 (by decide +kernel) (by decide +kernel)
theorem zm_37 : Cond.instanceMethod ⟨"ScheduleCheck$States","isBuilt","(I)Z"⟩ ∈ zd_ww := zd_me 609 (by decide +kernel) (by decide +kernel)
theorem zm_38 : Cond.selects "ScheduleCheck$States" ⟨"ScheduleCheck$States","isBuilt","(I)Z"⟩ ⟨"ScheduleCheck$States","isBuilt","(I)Z"⟩ ∈ zd_ww := zd_ms 32 (by decide +kernel) (by decide +kernel)
theorem zm_39 : Cond.initialized "ScheduleCheck$States" ∈ zd_ww := zd_me 4 (by decide +kernel) (by decide +kernel)
theorem zm_40 : Cond.code ⟨"ScheduleCheck$States","hashBuilt","()I"⟩ prog_9_method_11_code 4 (Option.some FieldType.int) ∈ zd_ww := zd_me 602 (by decide +kernel) (by decide +kernel)
theorem zm_41 : Cond.methodLink "ScheduleCheck$States" 63 ⟨"ScheduleCheck$States","hashBuilt","()I"⟩ ∈ zd_ww := zd_me 599 (by decide +kernel) (by decide +kernel)
theorem zm_42 : Cond.instanceMethod ⟨"ScheduleCheck$States","hashBuilt","()I"⟩ ∈ zd_ww := zd_me 601 (by decide +kernel) (by decide +kernel)
theorem zm_43 : Cond.selects "ScheduleCheck$States" ⟨"ScheduleCheck$States","hashBuilt","()I"⟩ ⟨"ScheduleCheck$States","hashBuilt","()I"⟩ ∈ zd_ww := zd_ms 30 (by decide +kernel) (by decide +kernel)
theorem zm_44 : Cond.code ⟨"ScheduleCheck$States","findBuilt","(I)I"⟩ prog_9_method_12_code 4 (Option.some FieldType.int) ∈ zd_ww := zd_me 606 (by decide +kernel) (by decide +kernel)
theorem zm_45 : Cond.methodLink "ScheduleCheck$States" 67 ⟨"ScheduleCheck$States","findBuilt","(I)I"⟩ ∈ zd_ww := zd_me 603 (by decide +kernel) (by decide +kernel)
theorem zm_46 : Cond.instanceMethod ⟨"ScheduleCheck$States","findBuilt","(I)I"⟩ ∈ zd_ww := zd_me 605 (by decide +kernel) (by decide +kernel)
theorem zm_47 : Cond.selects "ScheduleCheck$States" ⟨"ScheduleCheck$States","findBuilt","(I)I"⟩ ⟨"ScheduleCheck$States","findBuilt","(I)I"⟩ ∈ zd_ww := zd_ms 31 (by decide +kernel) (by decide +kernel)
theorem zm_48 : Cond.code ⟨"ScheduleCheck$States","addBuilt","(III)V"⟩ prog_9_method_10_code 5 none ∈ zd_ww := zd_me 614 (by decide +kernel) (by decide +kernel)
theorem zm_49 : Cond.methodLink "ScheduleCheck$States" 71 ⟨"ScheduleCheck$States","addBuilt","(III)V"⟩ ∈ zd_ww := zd_me 611 (by decide +kernel) (by decide +kernel)
theorem zm_50 : Cond.instanceMethod ⟨"ScheduleCheck$States","addBuilt","(III)V"⟩ ∈ zd_ww := zd_me 613 (by decide +kernel) (by decide +kernel)
theorem zm_51 : Cond.selects "ScheduleCheck$States" ⟨"ScheduleCheck$States","addBuilt","(III)V"⟩ ⟨"ScheduleCheck$States","addBuilt","(III)V"⟩ ∈ zd_ww := zd_ms 33 (by decide +kernel) (by decide +kernel)
theorem zm_52 : Cond.fieldLink "ScheduleCheck$States" 25 "ScheduleCheck$States" "steps" "[I" ∈ zd_ww := zd_me 115 (by decide +kernel) (by decide +kernel)
theorem zm_53 : Cond.code ⟨"ScheduleCheck$States","isFirstTo","(II)Z"⟩ prog_9_method_15_code 4 (Option.some FieldType.boolean) ∈ zd_ww := zd_me 713 (by decide +kernel) (by decide +kernel)
theorem zm_54 : Cond.methodLink "ScheduleCheck$States" 79 ⟨"ScheduleCheck$States","isFirstTo","(II)Z"⟩ ∈ zd_ww := zd_me 710 (by decide +kernel) (by decide +kernel)
theorem zm_55 : Cond.instanceMethod ⟨"ScheduleCheck$States","isFirstTo","(II)Z"⟩ ∈ zd_ww := zd_me 712 (by decide +kernel) (by decide +kernel)
theorem zm_56 : Cond.selects "ScheduleCheck$States" ⟨"ScheduleCheck$States","isFirstTo","(II)Z"⟩ ⟨"ScheduleCheck$States","isFirstTo","(II)Z"⟩ ∈ zd_ww := zd_ms 44 (by decide +kernel) (by decide +kernel)
/-! ScheduleCheck$States.clear -/
def y_States_clear : MethodName := ⟨"ScheduleCheck$States","clear","()V"⟩
theorem d_States_clear_0 : decode prog_9_method_2_code 0 = .ok (.aload_n 0, 1) := by decide +kernel
theorem d_States_clear_1 : decode prog_9_method_2_code 1 = .ok (.iconst 0, 1) := by decide +kernel
theorem d_States_clear_2 : decode prog_9_method_2_code 2 = .ok (.putfield 40, 3) := by decide +kernel
theorem d_States_clear_5 : decode prog_9_method_2_code 5 = .ok (.aload_n 0, 1) := by decide +kernel
theorem d_States_clear_6 : decode prog_9_method_2_code 6 = .ok (.iconst 0, 1) := by decide +kernel
theorem d_States_clear_7 : decode prog_9_method_2_code 7 = .ok (.putfield 44, 3) := by decide +kernel
theorem d_States_clear_10 : decode prog_9_method_2_code 10 = .ok (.aload_n 0, 1) := by decide +kernel
theorem d_States_clear_11 : decode prog_9_method_2_code 11 = .ok (.iconst 0, 1) := by decide +kernel
theorem d_States_clear_12 : decode prog_9_method_2_code 12 = .ok (.putfield 47, 3) := by decide +kernel
theorem d_States_clear_15 : decode prog_9_method_2_code 15 = .ok (.aload_n 0, 1) := by decide +kernel
theorem d_States_clear_16 : decode prog_9_method_2_code 16 = .ok (.getfield 34, 3) := by decide +kernel
theorem d_States_clear_19 : decode prog_9_method_2_code 19 = .ok (.bipush (-2), 2) := by decide +kernel
theorem d_States_clear_21 : decode prog_9_method_2_code 21 = .ok (.invokestatic 51, 3) := by decide +kernel
theorem d_States_clear_24 : decode prog_9_method_2_code 24 = .ok (.return_, 1) := by decide +kernel
def zf_States_clear (F : Nat)  (σ : zs_S) : Option (zs_S) :=
  zq_v (zs_wi σ 10 9 0) fun σ1 =>
  zq_v (zs_wi σ1 10 10 0) fun σ2 =>
  zq_v (zs_wi σ2 10 11 0) fun σ3 =>
  zq_d (zf_Arrays_fillI0 F 18 ((-2)) σ3) fun σ4 =>
  some σ4
set_option maxHeartbeats 4000000 in
set_option maxRecDepth 100000 in
theorem zc_States_clear {l : Launch} {D : va_G} {cA : Nat → ClassId} {ad : Nat → Nat} {A : Nat → Prop} {F : Nat}  {σ : zs_S} {q : zs_S} (hJ : zs_J ad) (hf : zf_States_clear F  σ = some q) : Met l y_States_clear (.code y_States_clear prog_9_method_2_code 1 none :: zd_ww) { frames := 1, cells := 0, slots := 0, locals := 23 } (va_Pc [.ref (ad 10)] (zs_U 0 D cA ad A σ)) (zs_Qv 0 D cA ad A q) 0 0 A := by
  refine Met.ofW (cc := prog_9_method_2_code) (maxL := 1) (ret := none) (by decide) rfl ?_
  intro p e s m args below meth c s₁ B hml hv
  obtain ⟨hargs, hP, hK, hD, hZ⟩ := hv
  have G : zs_G 0 p s m args c prog_9_method_2_code 1 "ScheduleCheck$States" D cA ad A := ⟨⟨B.exec, B.bytes, hml, findClass_of_methodNamed B.named, fun w h => atoms_spec B.pre w (List.mem_cons_of_mem _ h)⟩, hK, hJ, hZ⟩
  have hw : zs_I 0 D cA ad A s σ s.heap [] := ⟨hP, hD, va_S.rf⟩
  have hx := G.1.1
  have hb := G.1.2.1
  have hown := G.1.2.2.2.1
  have hts := G.1.2.2.2.2
  have hr := B.returns
  have hlocks := B.notSynchronized
  have he : entryFrame m args 1 = F0 m 0 ((lg_sl [.ref (ad 10)] ++ List.replicate (1 - (lg_sl [.ref (ad 10)]).length) Slot.unset).toArray) [] := by rw [hargs]; exact lg_entry_eq m _ 1
  have hl := lv_entry [.ref (ad 10)] (n := 1) (Nat.le_of_ble_eq_true rfl)
  rw [he]
  generalize (lg_sl [.ref (ad 10)] ++ List.replicate (1 - (lg_sl [.ref (ad 10)]).length) Slot.unset).toArray = ls at hl
  have hl : lv_has ls 1 [(0, .ref (ad 10))] := hl
  obtain ⟨RR, hR⟩ : ∃ z, z = (headSpec (.code y_States_clear prog_9_method_2_code 1 none :: zd_ww) { frames := 1, cells := 0, slots := 0, locals := 23 }).room := ⟨_, rfl⟩
  rw [← hR]
  obtain ⟨QQ, hQ⟩ : ∃ z, z = MQ below (zs_Qv 0 D cA ad A q) args s 0 0 A := ⟨_, rfl⟩
  rw [← hQ]
  have hR1 : 1 ≤ RR.frames := by rw [hR]; exact Nat.le_refl _
  have hR2 : 23 ≤ RR.locals := by rw [hR]; exact Nat.le_refl _
  generalize s.heap = H at hw ⊢
  generalize ([] : List Loc) = locs at hw ⊢
  unfold zf_States_clear at hf
  refine lv_aload_n hx hb d_States_clear_0 rfl (lv_at hl 0 rfl) ?_
  refine lv_iconst (v := 0) hx hb d_States_clear_1 (by decide) ?_
  obtain ⟨σ1, e_σ1, hf⟩ := zq_ss hf
  refine zr_puti (ci := 3) G hw 10 9 zi_3 t_zd3 t_zd3_ok n_zd3 rfl rfl rfl (by decide) rfl zm_16 (fun _ h => h) rfl (x := 0) (t_zd3_ok 9 (by decide)) rfl rfl d_States_clear_2 (fun H locs hw => ?_)
  rw [← e_σ1] at hw
  refine lv_aload_n hx hb d_States_clear_5 rfl (lv_at hl 0 rfl) ?_
  refine lv_iconst (v := 0) hx hb d_States_clear_6 (by decide) ?_
  obtain ⟨σ2, e_σ2, hf⟩ := zq_ss hf
  refine zr_puti (ci := 3) G hw 10 10 zi_3 t_zd3 t_zd3_ok n_zd3 rfl rfl rfl (by decide) rfl zm_17 (fun _ h => h) rfl (x := 0) (t_zd3_ok 10 (by decide)) rfl rfl d_States_clear_7 (fun H locs hw => ?_)
  rw [← e_σ2] at hw
  refine lv_aload_n hx hb d_States_clear_10 rfl (lv_at hl 0 rfl) ?_
  refine lv_iconst (v := 0) hx hb d_States_clear_11 (by decide) ?_
  obtain ⟨σ3, e_σ3, hf⟩ := zq_ss hf
  refine zr_puti (ci := 3) G hw 10 11 zi_3 t_zd3 t_zd3_ok n_zd3 rfl rfl rfl (by decide) rfl zm_18 (fun _ h => h) rfl (x := 0) (t_zd3_ok 11 (by decide)) (by decide) rfl d_States_clear_12 (fun H locs hw => ?_)
  rw [← e_σ3] at hw
  refine lv_aload_n hx hb d_States_clear_15 rfl (lv_at hl 0 rfl) ?_
  refine zr_get (ci := 3) G hw 10 7 zi_3 rfl rfl rfl (by decide) zm_19 (fun _ h => h) (v := .ref (ad 18)) rfl d_States_clear_16 ?_
  refine lv_bipush (v := (-2)) hx hb d_States_clear_19 (by decide) ?_
  obtain ⟨σ4, hc6, hf⟩ := zq_ds hf
  refine zr_cv hw (zr_runS (rest := []) G hw [.ref (ad 18), .int ((-2))] (zc_Arrays_fillI0 hJ hc6) (va_cwS 2 hts (zs_gS zm_21 zm_22 zm_23 zm_20) rfl rfl rfl (by decide +kernel) ⟨Nat.le_trans (by decide) hR1, Nat.le_trans (by decide) hR2⟩) rfl hl.1 (Nat.le_of_ble_eq_true rfl) d_States_clear_21 ⟨Nat.zero_le _, Nat.zero_le _⟩) (fun H locs hw => ?_)
  exact zr_vret G hw hr hlocks hf hQ d_States_clear_24
/-! ScheduleCheck$States.has -/
def y_States_has : MethodName := ⟨"ScheduleCheck$States","has","(I)Z"⟩
theorem d_States_has_0 : decode prog_9_method_3_code 0 = .ok (.iload_n 1, 1) := by decide +kernel
theorem d_States_has_1 : decode prog_9_method_3_code 1 = .ok (.ifCond .lt 15, 3) := by decide +kernel
theorem d_States_has_4 : decode prog_9_method_3_code 4 = .ok (.iload_n 1, 1) := by decide +kernel
theorem d_States_has_5 : decode prog_9_method_3_code 5 = .ok (.aload_n 0, 1) := by decide +kernel
theorem d_States_has_6 : decode prog_9_method_3_code 6 = .ok (.getfield 40, 3) := by decide +kernel
theorem d_States_has_9 : decode prog_9_method_3_code 9 = .ok (.if_icmp .ge 7, 3) := by decide +kernel
theorem d_States_has_12 : decode prog_9_method_3_code 12 = .ok (.iconst 1, 1) := by decide +kernel
theorem d_States_has_13 : decode prog_9_method_3_code 13 = .ok (.goto 4, 3) := by decide +kernel
theorem d_States_has_16 : decode prog_9_method_3_code 16 = .ok (.iconst 0, 1) := by decide +kernel
theorem d_States_has_17 : decode prog_9_method_3_code 17 = .ok (.ireturn, 1) := by decide +kernel
def zf_States_has_17 (F : Nat)  (t0 : Int32) (σ : zs_S) : Option (Int32 × zs_S) :=
  zq_g (zq_z t0) <|
  some (t0, σ)
def zf_States_has_16 (F : Nat)   (σ : zs_S) : Option (Int32 × zs_S) :=
  zf_States_has_17 F 0 σ
def zf_States_has (F : Nat) (x1 : Int32) (σ : zs_S) : Option (Int32 × zs_S) :=
  if x1 < 0 then (
    zf_States_has_16 F σ
  ) else (
    if (zs_i σ 10 9) ≤ x1 then (
      zf_States_has_16 F σ
    ) else (
      zf_States_has_17 F 1 σ
    )
  )
set_option maxHeartbeats 4000000 in
set_option maxRecDepth 100000 in
theorem zc_States_has {l : Launch} {D : va_G} {cA : Nat → ClassId} {ad : Nat → Nat} {A : Nat → Prop} {F : Nat} {x1 : Int32} {σ : zs_S} {q : Int32 × zs_S} (hJ : zs_J ad) (hf : zf_States_has F x1 σ = some q) : Met l y_States_has (.code y_States_has prog_9_method_3_code 2 (some .boolean) :: zd_ww) { frames := 0, cells := 0, slots := 0, locals := 0 } (va_Pc [.ref (ad 10), .int x1] (zs_U 0 D cA ad A σ)) (zs_Qi 0 D cA ad A q) 0 0 A := by
  refine Met.ofW (cc := prog_9_method_3_code) (maxL := 2) (ret := (some .boolean)) (by decide) rfl ?_
  intro p e s m args below meth c s₁ B hml hv
  obtain ⟨hargs, hP, hK, hD, hZ⟩ := hv
  have G : zs_G 0 p s m args c prog_9_method_3_code 2 "ScheduleCheck$States" D cA ad A := ⟨⟨B.exec, B.bytes, hml, findClass_of_methodNamed B.named, fun w h => atoms_spec B.pre w (List.mem_cons_of_mem _ h)⟩, hK, hJ, hZ⟩
  have hw : zs_I 0 D cA ad A s σ s.heap [] := ⟨hP, hD, va_S.rf⟩
  have hx := G.1.1
  have hb := G.1.2.1
  have hown := G.1.2.2.2.1
  have hts := G.1.2.2.2.2
  have hr := B.returns
  have hlocks := B.notSynchronized
  have he : entryFrame m args 2 = F0 m 0 ((lg_sl [.ref (ad 10), .int x1] ++ List.replicate (2 - (lg_sl [.ref (ad 10), .int x1]).length) Slot.unset).toArray) [] := by rw [hargs]; exact lg_entry_eq m _ 2
  have hl := lv_entry [.ref (ad 10), .int x1] (n := 2) (Nat.le_of_ble_eq_true rfl)
  rw [he]
  generalize (lg_sl [.ref (ad 10), .int x1] ++ List.replicate (2 - (lg_sl [.ref (ad 10), .int x1]).length) Slot.unset).toArray = ls at hl
  have hl : lv_has ls 2 [(0, .ref (ad 10)), (1, .int x1)] := hl
  obtain ⟨RR, hR⟩ : ∃ z, z = (headSpec (.code y_States_has prog_9_method_3_code 2 (some .boolean) :: zd_ww) { frames := 0, cells := 0, slots := 0, locals := 0 }).room := ⟨_, rfl⟩
  rw [← hR]
  obtain ⟨QQ, hQ⟩ : ∃ z, z = MQ below (zs_Qi 0 D cA ad A q) args s 0 0 A := ⟨_, rfl⟩
  rw [← hQ]
  have hR1 : 0 ≤ RR.frames := by rw [hR]; exact Nat.le_refl _
  have hR2 : 0 ≤ RR.locals := by rw [hR]; exact Nat.le_refl _
  generalize s.heap = H at hw ⊢
  generalize ([] : List Loc) = locs at hw ⊢
  have K17 : ∀ (t0 : Int32) (σ : zs_S) (H : Heap) (locs : List Loc) (ls : Array Slot), zf_States_has_17 F t0 σ = some q → zs_I 0 D cA ad A s σ H locs → lv_has ls 2 [] → W p l e RR s m args below meth c H locs 0 0 QQ (F0 m 17 ls [.int t0]) := by
    intro  t0 σ H locs ls hf hw hl
    unfold zf_States_has_17 at hf
    obtain ⟨hz, hf⟩ := zq_gs hf
    exact zr_zret G hw hr hlocks hz hf hQ d_States_has_17
  have K16 : ∀ (σ : zs_S) (H : Heap) (locs : List Loc) (ls : Array Slot), zf_States_has_16 F σ = some q → zs_I 0 D cA ad A s σ H locs → lv_has ls 2 [] → W p l e RR s m args below meth c H locs 0 0 QQ (F0 m 16 ls []) := by
    intro   σ H locs ls hf hw hl
    unfold zf_States_has_16 at hf
    refine lv_iconst (v := 0) hx hb d_States_has_16 (by decide) ?_
    exact K17 0 σ H locs ls hf hw (lv_sub hl [] rfl)
  unfold zf_States_has at hf
  refine lv_iload_n hx hb d_States_has_0 rfl (lv_at hl 1 rfl) ?_
  refine lv_if_lt hx hb d_States_has_1 (tgt := 16) rfl (fun hc => ?_) (fun hc => ?_)
  · have hf := (if_pos hc).symm.trans hf
    exact K16 σ H locs ls hf hw (lv_sub hl [] rfl)
  · have hf := (if_neg hc).symm.trans hf
    refine lv_iload_n hx hb d_States_has_4 rfl (lv_at hl 1 rfl) ?_
    refine lv_aload_n hx hb d_States_has_5 rfl (lv_at hl 0 rfl) ?_
    refine zr_get (ci := 3) G hw 10 9 zi_3 rfl rfl rfl (by decide) zm_16 (fun _ h => h) (v := .int (zs_i σ 10 9)) rfl d_States_has_6 ?_
    refine lv_icmp_ge hx hb d_States_has_9 (tgt := 16) rfl (fun hc => ?_) (fun hc => ?_)
    · have hf := (if_pos hc).symm.trans hf
      exact K16 σ H locs ls hf hw (lv_sub hl [] rfl)
    · have hf := (if_neg hc).symm.trans hf
      refine lv_iconst (v := 1) hx hb d_States_has_12 (by decide) ?_
      refine lv_goto hx hb d_States_has_13 (tgt := 17) rfl ?_
      exact K17 1 σ H locs ls hf hw (lv_sub hl [] rfl)
/-! ScheduleCheck$States.cell -/
def y_States_cell : MethodName := ⟨"ScheduleCheck$States","cell","(II)I"⟩
theorem d_States_cell_0 : decode prog_9_method_4_code 0 = .ok (.aload_n 0, 1) := by decide +kernel
theorem d_States_cell_1 : decode prog_9_method_4_code 1 = .ok (.getfield 9, 3) := by decide +kernel
theorem d_States_cell_4 : decode prog_9_method_4_code 4 = .ok (.iload_n 1, 1) := by decide +kernel
theorem d_States_cell_5 : decode prog_9_method_4_code 5 = .ok (.bipush 34, 2) := by decide +kernel
theorem d_States_cell_7 : decode prog_9_method_4_code 7 = .ok (.imul, 1) := by decide +kernel
theorem d_States_cell_8 : decode prog_9_method_4_code 8 = .ok (.iload_n 2, 1) := by decide +kernel
theorem d_States_cell_9 : decode prog_9_method_4_code 9 = .ok (.iadd, 1) := by decide +kernel
theorem d_States_cell_10 : decode prog_9_method_4_code 10 = .ok (.baload, 1) := by decide +kernel
theorem d_States_cell_11 : decode prog_9_method_4_code 11 = .ok (.ireturn, 1) := by decide +kernel
def zf_States_cell (F : Nat) (x1 : Int32) (x2 : Int32) (σ : zs_S) : Option (Int32 × zs_S) :=
  zq_g (zq_b ((x1 * 34) + x2) 27234) <|
  some (zs_i σ 11 ((x1 * 34) + x2).toNatClampNeg, σ)
set_option maxHeartbeats 4000000 in
set_option maxRecDepth 100000 in
theorem zc_States_cell {l : Launch} {D : va_G} {cA : Nat → ClassId} {ad : Nat → Nat} {A : Nat → Prop} {F : Nat} {x1 : Int32} {x2 : Int32} {σ : zs_S} {q : Int32 × zs_S} (hJ : zs_J ad) (hf : zf_States_cell F x1 x2 σ = some q) : Met l y_States_cell (.code y_States_cell prog_9_method_4_code 3 (some .int) :: zd_ww) { frames := 0, cells := 0, slots := 0, locals := 0 } (va_Pc [.ref (ad 10), .int x1, .int x2] (zs_U 0 D cA ad A σ)) (zs_Qi 0 D cA ad A q) 0 0 A := by
  refine Met.ofW (cc := prog_9_method_4_code) (maxL := 3) (ret := (some .int)) (by decide) rfl ?_
  intro p e s m args below meth c s₁ B hml hv
  obtain ⟨hargs, hP, hK, hD, hZ⟩ := hv
  have G : zs_G 0 p s m args c prog_9_method_4_code 3 "ScheduleCheck$States" D cA ad A := ⟨⟨B.exec, B.bytes, hml, findClass_of_methodNamed B.named, fun w h => atoms_spec B.pre w (List.mem_cons_of_mem _ h)⟩, hK, hJ, hZ⟩
  have hw : zs_I 0 D cA ad A s σ s.heap [] := ⟨hP, hD, va_S.rf⟩
  have hx := G.1.1
  have hb := G.1.2.1
  have hown := G.1.2.2.2.1
  have hts := G.1.2.2.2.2
  have hr := B.returns
  have hlocks := B.notSynchronized
  have he : entryFrame m args 3 = F0 m 0 ((lg_sl [.ref (ad 10), .int x1, .int x2] ++ List.replicate (3 - (lg_sl [.ref (ad 10), .int x1, .int x2]).length) Slot.unset).toArray) [] := by rw [hargs]; exact lg_entry_eq m _ 3
  have hl := lv_entry [.ref (ad 10), .int x1, .int x2] (n := 3) (Nat.le_of_ble_eq_true rfl)
  rw [he]
  generalize (lg_sl [.ref (ad 10), .int x1, .int x2] ++ List.replicate (3 - (lg_sl [.ref (ad 10), .int x1, .int x2]).length) Slot.unset).toArray = ls at hl
  have hl : lv_has ls 3 [(0, .ref (ad 10)), (1, .int x1), (2, .int x2)] := hl
  obtain ⟨RR, hR⟩ : ∃ z, z = (headSpec (.code y_States_cell prog_9_method_4_code 3 (some .int) :: zd_ww) { frames := 0, cells := 0, slots := 0, locals := 0 }).room := ⟨_, rfl⟩
  rw [← hR]
  obtain ⟨QQ, hQ⟩ : ∃ z, z = MQ below (zs_Qi 0 D cA ad A q) args s 0 0 A := ⟨_, rfl⟩
  rw [← hQ]
  have hR1 : 0 ≤ RR.frames := by rw [hR]; exact Nat.le_refl _
  have hR2 : 0 ≤ RR.locals := by rw [hR]; exact Nat.le_refl _
  generalize s.heap = H at hw ⊢
  generalize ([] : List Loc) = locs at hw ⊢
  unfold zf_States_cell at hf
  refine lv_aload_n hx hb d_States_cell_0 rfl (lv_at hl 0 rfl) ?_
  refine zr_get (ci := 3) G hw 10 0 zi_3 rfl rfl rfl (by decide) zm_24 (fun _ h => h) (v := .ref (ad 11)) rfl d_States_cell_1 ?_
  refine lv_iload_n hx hb d_States_cell_4 rfl (lv_at hl 1 rfl) ?_
  refine lv_bipush (v := 34) hx hb d_States_cell_5 (by decide) ?_
  refine lv_imul hx hb d_States_cell_7 ?_
  refine lv_iload_n hx hb d_States_cell_8 rfl (lv_at hl 2 rfl) ?_
  refine lv_iadd hx hb d_States_cell_9 ?_
  obtain ⟨hi1, hf⟩ := zq_gs hf
  refine zr_bald G hw 11 rfl rfl hi1 d_States_cell_10 ?_
  exact zr_iret G hw hr hlocks hf hQ d_States_cell_11
/-! ScheduleCheck$States.set -/
def y_States_set : MethodName := ⟨"ScheduleCheck$States","set","(II)V"⟩
theorem d_States_set_0 : decode prog_9_method_5_code 0 = .ok (.aload_n 0, 1) := by decide +kernel
theorem d_States_set_1 : decode prog_9_method_5_code 1 = .ok (.getfield 9, 3) := by decide +kernel
theorem d_States_set_4 : decode prog_9_method_5_code 4 = .ok (.aload_n 0, 1) := by decide +kernel
theorem d_States_set_5 : decode prog_9_method_5_code 5 = .ok (.getfield 40, 3) := by decide +kernel
theorem d_States_set_8 : decode prog_9_method_5_code 8 = .ok (.bipush 34, 2) := by decide +kernel
theorem d_States_set_10 : decode prog_9_method_5_code 10 = .ok (.imul, 1) := by decide +kernel
theorem d_States_set_11 : decode prog_9_method_5_code 11 = .ok (.iload_n 1, 1) := by decide +kernel
theorem d_States_set_12 : decode prog_9_method_5_code 12 = .ok (.iadd, 1) := by decide +kernel
theorem d_States_set_13 : decode prog_9_method_5_code 13 = .ok (.iload_n 2, 1) := by decide +kernel
theorem d_States_set_14 : decode prog_9_method_5_code 14 = .ok (.i2b, 1) := by decide +kernel
theorem d_States_set_15 : decode prog_9_method_5_code 15 = .ok (.bastore, 1) := by decide +kernel
theorem d_States_set_16 : decode prog_9_method_5_code 16 = .ok (.return_, 1) := by decide +kernel
def zf_States_set (F : Nat) (x1 : Int32) (x2 : Int32) (σ : zs_S) : Option (zs_S) :=
  zq_g (zq_b (((zs_i σ 10 9) * 34) + x1) 27234) <|
  zq_v (zs_wi σ 11 ((((zs_i σ 10 9) * 34) + x1).toNatClampNeg) (vp_nar .byte (((x2 : Int32)).toInt8.toInt32))) fun σ2 =>
  some σ2
set_option maxHeartbeats 4000000 in
set_option maxRecDepth 100000 in
theorem zc_States_set {l : Launch} {D : va_G} {cA : Nat → ClassId} {ad : Nat → Nat} {A : Nat → Prop} {F : Nat} {x1 : Int32} {x2 : Int32} {σ : zs_S} {q : zs_S} (hJ : zs_J ad) (hf : zf_States_set F x1 x2 σ = some q) : Met l y_States_set (.code y_States_set prog_9_method_5_code 3 none :: zd_ww) { frames := 0, cells := 0, slots := 0, locals := 0 } (va_Pc [.ref (ad 10), .int x1, .int x2] (zs_U 0 D cA ad A σ)) (zs_Qv 0 D cA ad A q) 0 0 A := by
  refine Met.ofW (cc := prog_9_method_5_code) (maxL := 3) (ret := none) (by decide) rfl ?_
  intro p e s m args below meth c s₁ B hml hv
  obtain ⟨hargs, hP, hK, hD, hZ⟩ := hv
  have G : zs_G 0 p s m args c prog_9_method_5_code 3 "ScheduleCheck$States" D cA ad A := ⟨⟨B.exec, B.bytes, hml, findClass_of_methodNamed B.named, fun w h => atoms_spec B.pre w (List.mem_cons_of_mem _ h)⟩, hK, hJ, hZ⟩
  have hw : zs_I 0 D cA ad A s σ s.heap [] := ⟨hP, hD, va_S.rf⟩
  have hx := G.1.1
  have hb := G.1.2.1
  have hown := G.1.2.2.2.1
  have hts := G.1.2.2.2.2
  have hr := B.returns
  have hlocks := B.notSynchronized
  have he : entryFrame m args 3 = F0 m 0 ((lg_sl [.ref (ad 10), .int x1, .int x2] ++ List.replicate (3 - (lg_sl [.ref (ad 10), .int x1, .int x2]).length) Slot.unset).toArray) [] := by rw [hargs]; exact lg_entry_eq m _ 3
  have hl := lv_entry [.ref (ad 10), .int x1, .int x2] (n := 3) (Nat.le_of_ble_eq_true rfl)
  rw [he]
  generalize (lg_sl [.ref (ad 10), .int x1, .int x2] ++ List.replicate (3 - (lg_sl [.ref (ad 10), .int x1, .int x2]).length) Slot.unset).toArray = ls at hl
  have hl : lv_has ls 3 [(0, .ref (ad 10)), (1, .int x1), (2, .int x2)] := hl
  obtain ⟨RR, hR⟩ : ∃ z, z = (headSpec (.code y_States_set prog_9_method_5_code 3 none :: zd_ww) { frames := 0, cells := 0, slots := 0, locals := 0 }).room := ⟨_, rfl⟩
  rw [← hR]
  obtain ⟨QQ, hQ⟩ : ∃ z, z = MQ below (zs_Qv 0 D cA ad A q) args s 0 0 A := ⟨_, rfl⟩
  rw [← hQ]
  have hR1 : 0 ≤ RR.frames := by rw [hR]; exact Nat.le_refl _
  have hR2 : 0 ≤ RR.locals := by rw [hR]; exact Nat.le_refl _
  generalize s.heap = H at hw ⊢
  generalize ([] : List Loc) = locs at hw ⊢
  unfold zf_States_set at hf
  refine lv_aload_n hx hb d_States_set_0 rfl (lv_at hl 0 rfl) ?_
  refine zr_get (ci := 3) G hw 10 0 zi_3 rfl rfl rfl (by decide) zm_24 (fun _ h => h) (v := .ref (ad 11)) rfl d_States_set_1 ?_
  refine lv_aload_n hx hb d_States_set_4 rfl (lv_at hl 0 rfl) ?_
  refine zr_get (ci := 3) G hw 10 9 zi_3 rfl rfl rfl (by decide) zm_16 (fun _ h => h) (v := .int (zs_i σ 10 9)) rfl d_States_set_5 ?_
  refine lv_bipush (v := 34) hx hb d_States_set_8 (by decide) ?_
  refine lv_imul hx hb d_States_set_10 ?_
  refine lv_iload_n hx hb d_States_set_11 rfl (lv_at hl 1 rfl) ?_
  refine lv_iadd hx hb d_States_set_12 ?_
  refine lv_iload_n hx hb d_States_set_13 rfl (lv_at hl 2 rfl) ?_
  refine lv_i2b hx hb d_States_set_14 rfl ?_
  obtain ⟨hi1, hf⟩ := zq_gs hf
  obtain ⟨σ2, e_σ2, hf⟩ := zq_ss hf
  refine zr_bast G hw 11 rfl rfl hi1 d_States_set_15 (fun H locs hw => ?_)
  rw [← e_σ2] at hw
  exact zr_vret G hw hr hlocks hf hQ d_States_set_16
/-! ScheduleCheck$States.copy -/
def y_States_copy : MethodName := ⟨"ScheduleCheck$States","copy","(I)V"⟩
theorem d_States_copy_0 : decode prog_9_method_6_code 0 = .ok (.aload_n 0, 1) := by decide +kernel
theorem d_States_copy_1 : decode prog_9_method_6_code 1 = .ok (.getfield 9, 3) := by decide +kernel
theorem d_States_copy_4 : decode prog_9_method_6_code 4 = .ok (.iload_n 1, 1) := by decide +kernel
theorem d_States_copy_5 : decode prog_9_method_6_code 5 = .ok (.bipush 34, 2) := by decide +kernel
theorem d_States_copy_7 : decode prog_9_method_6_code 7 = .ok (.imul, 1) := by decide +kernel
theorem d_States_copy_8 : decode prog_9_method_6_code 8 = .ok (.aload_n 0, 1) := by decide +kernel
theorem d_States_copy_9 : decode prog_9_method_6_code 9 = .ok (.getfield 9, 3) := by decide +kernel
theorem d_States_copy_12 : decode prog_9_method_6_code 12 = .ok (.aload_n 0, 1) := by decide +kernel
theorem d_States_copy_13 : decode prog_9_method_6_code 13 = .ok (.getfield 40, 3) := by decide +kernel
theorem d_States_copy_16 : decode prog_9_method_6_code 16 = .ok (.bipush 34, 2) := by decide +kernel
theorem d_States_copy_18 : decode prog_9_method_6_code 18 = .ok (.imul, 1) := by decide +kernel
theorem d_States_copy_19 : decode prog_9_method_6_code 19 = .ok (.bipush 34, 2) := by decide +kernel
theorem d_States_copy_21 : decode prog_9_method_6_code 21 = .ok (.invokestatic 57, 3) := by decide +kernel
theorem d_States_copy_24 : decode prog_9_method_6_code 24 = .ok (.return_, 1) := by decide +kernel
def zf_States_copy (F : Nat) (x1 : Int32) (σ : zs_S) : Option (zs_S) :=
  zq_g (zq_cp 1 σ 11 (x1 * 34) ((zs_i σ 10 9) * 34) 34 27234 27234) <|
  zq_v (zs_cp σ 11 11 (x1 * 34 : Int32).toNatClampNeg ((zs_i σ 10 9) * 34 : Int32).toNatClampNeg (34 : Int32).toNatClampNeg) fun σ2 =>
  some σ2
set_option maxHeartbeats 4000000 in
set_option maxRecDepth 100000 in
theorem zc_States_copy {l : Launch} {D : va_G} {cA : Nat → ClassId} {ad : Nat → Nat} {A : Nat → Prop} {F : Nat} {x1 : Int32} {σ : zs_S} {q : zs_S} (hJ : zs_J ad) (hf : zf_States_copy F x1 σ = some q) : Met l y_States_copy (.code y_States_copy prog_9_method_6_code 2 none :: zd_ww) { frames := 1, cells := 0, slots := 0, locals := 60 } (va_Pc [.ref (ad 10), .int x1] (zs_U 0 D cA ad A σ)) (zs_Qv 0 D cA ad A q) 0 0 A := by
  refine Met.ofW (cc := prog_9_method_6_code) (maxL := 2) (ret := none) (by decide) rfl ?_
  intro p e s m args below meth c s₁ B hml hv
  obtain ⟨hargs, hP, hK, hD, hZ⟩ := hv
  have G : zs_G 0 p s m args c prog_9_method_6_code 2 "ScheduleCheck$States" D cA ad A := ⟨⟨B.exec, B.bytes, hml, findClass_of_methodNamed B.named, fun w h => atoms_spec B.pre w (List.mem_cons_of_mem _ h)⟩, hK, hJ, hZ⟩
  have hw : zs_I 0 D cA ad A s σ s.heap [] := ⟨hP, hD, va_S.rf⟩
  have hx := G.1.1
  have hb := G.1.2.1
  have hown := G.1.2.2.2.1
  have hts := G.1.2.2.2.2
  have hr := B.returns
  have hlocks := B.notSynchronized
  have he : entryFrame m args 2 = F0 m 0 ((lg_sl [.ref (ad 10), .int x1] ++ List.replicate (2 - (lg_sl [.ref (ad 10), .int x1]).length) Slot.unset).toArray) [] := by rw [hargs]; exact lg_entry_eq m _ 2
  have hl := lv_entry [.ref (ad 10), .int x1] (n := 2) (Nat.le_of_ble_eq_true rfl)
  rw [he]
  generalize (lg_sl [.ref (ad 10), .int x1] ++ List.replicate (2 - (lg_sl [.ref (ad 10), .int x1]).length) Slot.unset).toArray = ls at hl
  have hl : lv_has ls 2 [(0, .ref (ad 10)), (1, .int x1)] := hl
  obtain ⟨RR, hR⟩ : ∃ z, z = (headSpec (.code y_States_copy prog_9_method_6_code 2 none :: zd_ww) { frames := 1, cells := 0, slots := 0, locals := 60 }).room := ⟨_, rfl⟩
  rw [← hR]
  obtain ⟨QQ, hQ⟩ : ∃ z, z = MQ below (zs_Qv 0 D cA ad A q) args s 0 0 A := ⟨_, rfl⟩
  rw [← hQ]
  have hR1 : 1 ≤ RR.frames := by rw [hR]; exact Nat.le_refl _
  have hR2 : 60 ≤ RR.locals := by rw [hR]; exact Nat.le_refl _
  generalize s.heap = H at hw ⊢
  generalize ([] : List Loc) = locs at hw ⊢
  unfold zf_States_copy at hf
  refine lv_aload_n hx hb d_States_copy_0 rfl (lv_at hl 0 rfl) ?_
  refine zr_get (ci := 3) G hw 10 0 zi_3 rfl rfl rfl (by decide) zm_24 (fun _ h => h) (v := .ref (ad 11)) rfl d_States_copy_1 ?_
  refine lv_iload_n hx hb d_States_copy_4 rfl (lv_at hl 1 rfl) ?_
  refine lv_bipush (v := 34) hx hb d_States_copy_5 (by decide) ?_
  refine lv_imul hx hb d_States_copy_7 ?_
  refine lv_aload_n hx hb d_States_copy_8 rfl (lv_at hl 0 rfl) ?_
  refine zr_get (ci := 3) G hw 10 0 zi_3 rfl rfl rfl (by decide) zm_24 (fun _ h => h) (v := .ref (ad 11)) rfl d_States_copy_9 ?_
  refine lv_aload_n hx hb d_States_copy_12 rfl (lv_at hl 0 rfl) ?_
  refine zr_get (ci := 3) G hw 10 9 zi_3 rfl rfl rfl (by decide) zm_16 (fun _ h => h) (v := .int (zs_i σ 10 9)) rfl d_States_copy_13 ?_
  refine lv_bipush (v := 34) hx hb d_States_copy_16 (by decide) ?_
  refine lv_imul hx hb d_States_copy_18 ?_
  refine lv_bipush (v := 34) hx hb d_States_copy_19 (by decide) ?_
  obtain ⟨hk1, hf⟩ := zq_gs hf
  obtain ⟨σ2, e_σ2, hf⟩ := zq_ss hf
  refine zr_copy (rest := []) G hw 11 11 rfl rfl rfl rfl (by decide) hk1 hl.1 zm_25 zm_26 zm_27 zm_28 (Nat.le_trans (by decide) hR1) (Nat.le_trans (Nat.le_of_ble_eq_true rfl) hR2) d_States_copy_21 (fun H locs hw => ?_)
  rw [← e_σ2] at hw
  exact zr_vret G hw hr hlocks hf hQ d_States_copy_24
/-! ScheduleCheck$States.beginSteps -/
def y_States_beginSteps : MethodName := ⟨"ScheduleCheck$States","beginSteps","(I)V"⟩
theorem d_States_beginSteps_0 : decode prog_9_method_7_code 0 = .ok (.aload_n 0, 1) := by decide +kernel
theorem d_States_beginSteps_1 : decode prog_9_method_7_code 1 = .ok (.getfield 28, 3) := by decide +kernel
theorem d_States_beginSteps_4 : decode prog_9_method_7_code 4 = .ok (.iload_n 1, 1) := by decide +kernel
theorem d_States_beginSteps_5 : decode prog_9_method_7_code 5 = .ok (.aload_n 0, 1) := by decide +kernel
theorem d_States_beginSteps_6 : decode prog_9_method_7_code 6 = .ok (.getfield 44, 3) := by decide +kernel
theorem d_States_beginSteps_9 : decode prog_9_method_7_code 9 = .ok (.iastore, 1) := by decide +kernel
theorem d_States_beginSteps_10 : decode prog_9_method_7_code 10 = .ok (.aload_n 0, 1) := by decide +kernel
theorem d_States_beginSteps_11 : decode prog_9_method_7_code 11 = .ok (.getfield 28, 3) := by decide +kernel
theorem d_States_beginSteps_14 : decode prog_9_method_7_code 14 = .ok (.iload_n 1, 1) := by decide +kernel
theorem d_States_beginSteps_15 : decode prog_9_method_7_code 15 = .ok (.iconst 1, 1) := by decide +kernel
theorem d_States_beginSteps_16 : decode prog_9_method_7_code 16 = .ok (.iadd, 1) := by decide +kernel
theorem d_States_beginSteps_17 : decode prog_9_method_7_code 17 = .ok (.aload_n 0, 1) := by decide +kernel
theorem d_States_beginSteps_18 : decode prog_9_method_7_code 18 = .ok (.getfield 44, 3) := by decide +kernel
theorem d_States_beginSteps_21 : decode prog_9_method_7_code 21 = .ok (.iastore, 1) := by decide +kernel
theorem d_States_beginSteps_22 : decode prog_9_method_7_code 22 = .ok (.return_, 1) := by decide +kernel
def zf_States_beginSteps (F : Nat) (x1 : Int32) (σ : zs_S) : Option (zs_S) :=
  zq_g (zq_b x1 801) <|
  zq_v (zs_wi σ 16 ((x1).toNatClampNeg) (zs_i σ 10 10)) fun σ2 =>
  zq_g (zq_b (x1 + 1) 801) <|
  zq_v (zs_wi σ2 16 ((x1 + 1).toNatClampNeg) (zs_i σ2 10 10)) fun σ4 =>
  some σ4
set_option maxHeartbeats 4000000 in
set_option maxRecDepth 100000 in
theorem zc_States_beginSteps {l : Launch} {D : va_G} {cA : Nat → ClassId} {ad : Nat → Nat} {A : Nat → Prop} {F : Nat} {x1 : Int32} {σ : zs_S} {q : zs_S} (hJ : zs_J ad) (hf : zf_States_beginSteps F x1 σ = some q) : Met l y_States_beginSteps (.code y_States_beginSteps prog_9_method_7_code 2 none :: zd_ww) { frames := 0, cells := 0, slots := 0, locals := 0 } (va_Pc [.ref (ad 10), .int x1] (zs_U 0 D cA ad A σ)) (zs_Qv 0 D cA ad A q) 0 0 A := by
  refine Met.ofW (cc := prog_9_method_7_code) (maxL := 2) (ret := none) (by decide) rfl ?_
  intro p e s m args below meth c s₁ B hml hv
  obtain ⟨hargs, hP, hK, hD, hZ⟩ := hv
  have G : zs_G 0 p s m args c prog_9_method_7_code 2 "ScheduleCheck$States" D cA ad A := ⟨⟨B.exec, B.bytes, hml, findClass_of_methodNamed B.named, fun w h => atoms_spec B.pre w (List.mem_cons_of_mem _ h)⟩, hK, hJ, hZ⟩
  have hw : zs_I 0 D cA ad A s σ s.heap [] := ⟨hP, hD, va_S.rf⟩
  have hx := G.1.1
  have hb := G.1.2.1
  have hown := G.1.2.2.2.1
  have hts := G.1.2.2.2.2
  have hr := B.returns
  have hlocks := B.notSynchronized
  have he : entryFrame m args 2 = F0 m 0 ((lg_sl [.ref (ad 10), .int x1] ++ List.replicate (2 - (lg_sl [.ref (ad 10), .int x1]).length) Slot.unset).toArray) [] := by rw [hargs]; exact lg_entry_eq m _ 2
  have hl := lv_entry [.ref (ad 10), .int x1] (n := 2) (Nat.le_of_ble_eq_true rfl)
  rw [he]
  generalize (lg_sl [.ref (ad 10), .int x1] ++ List.replicate (2 - (lg_sl [.ref (ad 10), .int x1]).length) Slot.unset).toArray = ls at hl
  have hl : lv_has ls 2 [(0, .ref (ad 10)), (1, .int x1)] := hl
  obtain ⟨RR, hR⟩ : ∃ z, z = (headSpec (.code y_States_beginSteps prog_9_method_7_code 2 none :: zd_ww) { frames := 0, cells := 0, slots := 0, locals := 0 }).room := ⟨_, rfl⟩
  rw [← hR]
  obtain ⟨QQ, hQ⟩ : ∃ z, z = MQ below (zs_Qv 0 D cA ad A q) args s 0 0 A := ⟨_, rfl⟩
  rw [← hQ]
  have hR1 : 0 ≤ RR.frames := by rw [hR]; exact Nat.le_refl _
  have hR2 : 0 ≤ RR.locals := by rw [hR]; exact Nat.le_refl _
  generalize s.heap = H at hw ⊢
  generalize ([] : List Loc) = locs at hw ⊢
  unfold zf_States_beginSteps at hf
  refine lv_aload_n hx hb d_States_beginSteps_0 rfl (lv_at hl 0 rfl) ?_
  refine zr_get (ci := 3) G hw 10 5 zi_3 rfl rfl rfl (by decide) zm_29 (fun _ h => h) (v := .ref (ad 16)) rfl d_States_beginSteps_1 ?_
  refine lv_iload_n hx hb d_States_beginSteps_4 rfl (lv_at hl 1 rfl) ?_
  refine lv_aload_n hx hb d_States_beginSteps_5 rfl (lv_at hl 0 rfl) ?_
  refine zr_get (ci := 3) G hw 10 10 zi_3 rfl rfl rfl (by decide) zm_17 (fun _ h => h) (v := .int (zs_i σ 10 10)) rfl d_States_beginSteps_6 ?_
  obtain ⟨hi1, hf⟩ := zq_gs hf
  obtain ⟨σ2, e_σ2, hf⟩ := zq_ss hf
  refine zr_iast G hw 16 rfl rfl hi1 d_States_beginSteps_9 (fun H locs hw => ?_)
  rw [← e_σ2] at hw
  refine lv_aload_n hx hb d_States_beginSteps_10 rfl (lv_at hl 0 rfl) ?_
  refine zr_get (ci := 3) G hw 10 5 zi_3 rfl rfl rfl (by decide) zm_29 (fun _ h => h) (v := .ref (ad 16)) rfl d_States_beginSteps_11 ?_
  refine lv_iload_n hx hb d_States_beginSteps_14 rfl (lv_at hl 1 rfl) ?_
  refine lv_iconst (v := 1) hx hb d_States_beginSteps_15 (by decide) ?_
  refine lv_iadd hx hb d_States_beginSteps_16 ?_
  refine lv_aload_n hx hb d_States_beginSteps_17 rfl (lv_at hl 0 rfl) ?_
  refine zr_get (ci := 3) G hw 10 10 zi_3 rfl rfl rfl (by decide) zm_17 (fun _ h => h) (v := .int (zs_i σ2 10 10)) rfl d_States_beginSteps_18 ?_
  obtain ⟨hi3, hf⟩ := zq_gs hf
  obtain ⟨σ4, e_σ4, hf⟩ := zq_ss hf
  refine zr_iast G hw 16 rfl rfl hi3 d_States_beginSteps_21 (fun H locs hw => ?_)
  rw [← e_σ4] at hw
  exact zr_vret G hw hr hlocks hf hQ d_States_beginSteps_22
/-! ScheduleCheck$States.stepsOf -/
def y_States_stepsOf : MethodName := ⟨"ScheduleCheck$States","stepsOf","(I)I"⟩
theorem d_States_stepsOf_0 : decode prog_9_method_8_code 0 = .ok (.aload_n 0, 1) := by decide +kernel
theorem d_States_stepsOf_1 : decode prog_9_method_8_code 1 = .ok (.getfield 28, 3) := by decide +kernel
theorem d_States_stepsOf_4 : decode prog_9_method_8_code 4 = .ok (.iload_n 1, 1) := by decide +kernel
theorem d_States_stepsOf_5 : decode prog_9_method_8_code 5 = .ok (.iconst 1, 1) := by decide +kernel
theorem d_States_stepsOf_6 : decode prog_9_method_8_code 6 = .ok (.iadd, 1) := by decide +kernel
theorem d_States_stepsOf_7 : decode prog_9_method_8_code 7 = .ok (.iaload, 1) := by decide +kernel
theorem d_States_stepsOf_8 : decode prog_9_method_8_code 8 = .ok (.aload_n 0, 1) := by decide +kernel
theorem d_States_stepsOf_9 : decode prog_9_method_8_code 9 = .ok (.getfield 28, 3) := by decide +kernel
theorem d_States_stepsOf_12 : decode prog_9_method_8_code 12 = .ok (.iload_n 1, 1) := by decide +kernel
theorem d_States_stepsOf_13 : decode prog_9_method_8_code 13 = .ok (.iaload, 1) := by decide +kernel
theorem d_States_stepsOf_14 : decode prog_9_method_8_code 14 = .ok (.isub, 1) := by decide +kernel
theorem d_States_stepsOf_15 : decode prog_9_method_8_code 15 = .ok (.ireturn, 1) := by decide +kernel
def zf_States_stepsOf (F : Nat) (x1 : Int32) (σ : zs_S) : Option (Int32 × zs_S) :=
  zq_g (zq_b (x1 + 1) 801) <|
  zq_g (zq_b x1 801) <|
  some ((zs_i σ 16 (x1 + 1).toNatClampNeg) - (zs_i σ 16 (x1).toNatClampNeg), σ)
set_option maxHeartbeats 4000000 in
set_option maxRecDepth 100000 in
theorem zc_States_stepsOf {l : Launch} {D : va_G} {cA : Nat → ClassId} {ad : Nat → Nat} {A : Nat → Prop} {F : Nat} {x1 : Int32} {σ : zs_S} {q : Int32 × zs_S} (hJ : zs_J ad) (hf : zf_States_stepsOf F x1 σ = some q) : Met l y_States_stepsOf (.code y_States_stepsOf prog_9_method_8_code 2 (some .int) :: zd_ww) { frames := 0, cells := 0, slots := 0, locals := 0 } (va_Pc [.ref (ad 10), .int x1] (zs_U 0 D cA ad A σ)) (zs_Qi 0 D cA ad A q) 0 0 A := by
  refine Met.ofW (cc := prog_9_method_8_code) (maxL := 2) (ret := (some .int)) (by decide) rfl ?_
  intro p e s m args below meth c s₁ B hml hv
  obtain ⟨hargs, hP, hK, hD, hZ⟩ := hv
  have G : zs_G 0 p s m args c prog_9_method_8_code 2 "ScheduleCheck$States" D cA ad A := ⟨⟨B.exec, B.bytes, hml, findClass_of_methodNamed B.named, fun w h => atoms_spec B.pre w (List.mem_cons_of_mem _ h)⟩, hK, hJ, hZ⟩
  have hw : zs_I 0 D cA ad A s σ s.heap [] := ⟨hP, hD, va_S.rf⟩
  have hx := G.1.1
  have hb := G.1.2.1
  have hown := G.1.2.2.2.1
  have hts := G.1.2.2.2.2
  have hr := B.returns
  have hlocks := B.notSynchronized
  have he : entryFrame m args 2 = F0 m 0 ((lg_sl [.ref (ad 10), .int x1] ++ List.replicate (2 - (lg_sl [.ref (ad 10), .int x1]).length) Slot.unset).toArray) [] := by rw [hargs]; exact lg_entry_eq m _ 2
  have hl := lv_entry [.ref (ad 10), .int x1] (n := 2) (Nat.le_of_ble_eq_true rfl)
  rw [he]
  generalize (lg_sl [.ref (ad 10), .int x1] ++ List.replicate (2 - (lg_sl [.ref (ad 10), .int x1]).length) Slot.unset).toArray = ls at hl
  have hl : lv_has ls 2 [(0, .ref (ad 10)), (1, .int x1)] := hl
  obtain ⟨RR, hR⟩ : ∃ z, z = (headSpec (.code y_States_stepsOf prog_9_method_8_code 2 (some .int) :: zd_ww) { frames := 0, cells := 0, slots := 0, locals := 0 }).room := ⟨_, rfl⟩
  rw [← hR]
  obtain ⟨QQ, hQ⟩ : ∃ z, z = MQ below (zs_Qi 0 D cA ad A q) args s 0 0 A := ⟨_, rfl⟩
  rw [← hQ]
  have hR1 : 0 ≤ RR.frames := by rw [hR]; exact Nat.le_refl _
  have hR2 : 0 ≤ RR.locals := by rw [hR]; exact Nat.le_refl _
  generalize s.heap = H at hw ⊢
  generalize ([] : List Loc) = locs at hw ⊢
  unfold zf_States_stepsOf at hf
  refine lv_aload_n hx hb d_States_stepsOf_0 rfl (lv_at hl 0 rfl) ?_
  refine zr_get (ci := 3) G hw 10 5 zi_3 rfl rfl rfl (by decide) zm_29 (fun _ h => h) (v := .ref (ad 16)) rfl d_States_stepsOf_1 ?_
  refine lv_iload_n hx hb d_States_stepsOf_4 rfl (lv_at hl 1 rfl) ?_
  refine lv_iconst (v := 1) hx hb d_States_stepsOf_5 (by decide) ?_
  refine lv_iadd hx hb d_States_stepsOf_6 ?_
  obtain ⟨hi1, hf⟩ := zq_gs hf
  refine zr_iald G hw 16 rfl rfl hi1 d_States_stepsOf_7 ?_
  refine lv_aload_n hx hb d_States_stepsOf_8 rfl (lv_at hl 0 rfl) ?_
  refine zr_get (ci := 3) G hw 10 5 zi_3 rfl rfl rfl (by decide) zm_29 (fun _ h => h) (v := .ref (ad 16)) rfl d_States_stepsOf_9 ?_
  refine lv_iload_n hx hb d_States_stepsOf_12 rfl (lv_at hl 1 rfl) ?_
  obtain ⟨hi2, hf⟩ := zq_gs hf
  refine zr_iald G hw 16 rfl rfl hi2 d_States_stepsOf_13 ?_
  refine lv_isub hx hb d_States_stepsOf_14 ?_
  exact zr_iret G hw hr hlocks hf hQ d_States_stepsOf_15
/-! ScheduleCheck$States.addBuilt -/
def y_States_addBuilt : MethodName := ⟨"ScheduleCheck$States","addBuilt","(III)V"⟩
theorem d_States_addBuilt_0 : decode prog_9_method_10_code 0 = .ok (.iload_n 1, 1) := by decide +kernel
theorem d_States_addBuilt_1 : decode prog_9_method_10_code 1 = .ok (.sipush 1023, 3) := by decide +kernel
theorem d_States_addBuilt_4 : decode prog_9_method_10_code 4 = .ok (.iand, 1) := by decide +kernel
theorem d_States_addBuilt_5 : decode prog_9_method_10_code 5 = .ok (.istore 4, 2) := by decide +kernel
theorem d_States_addBuilt_7 : decode prog_9_method_10_code 7 = .ok (.aload_n 0, 1) := by decide +kernel
theorem d_States_addBuilt_8 : decode prog_9_method_10_code 8 = .ok (.getfield 15, 3) := by decide +kernel
theorem d_States_addBuilt_11 : decode prog_9_method_10_code 11 = .ok (.aload_n 0, 1) := by decide +kernel
theorem d_States_addBuilt_12 : decode prog_9_method_10_code 12 = .ok (.getfield 40, 3) := by decide +kernel
theorem d_States_addBuilt_15 : decode prog_9_method_10_code 15 = .ok (.iload_n 2, 1) := by decide +kernel
theorem d_States_addBuilt_16 : decode prog_9_method_10_code 16 = .ok (.iconst (-1), 1) := by decide +kernel
theorem d_States_addBuilt_17 : decode prog_9_method_10_code 17 = .ok (.if_icmp .ne 7, 3) := by decide +kernel
theorem d_States_addBuilt_20 : decode prog_9_method_10_code 20 = .ok (.iconst 0, 1) := by decide +kernel
theorem d_States_addBuilt_21 : decode prog_9_method_10_code 21 = .ok (.goto 11, 3) := by decide +kernel
theorem d_States_addBuilt_24 : decode prog_9_method_10_code 24 = .ok (.aload_n 0, 1) := by decide +kernel
theorem d_States_addBuilt_25 : decode prog_9_method_10_code 25 = .ok (.getfield 15, 3) := by decide +kernel
theorem d_States_addBuilt_28 : decode prog_9_method_10_code 28 = .ok (.iload_n 2, 1) := by decide +kernel
theorem d_States_addBuilt_29 : decode prog_9_method_10_code 29 = .ok (.iaload, 1) := by decide +kernel
theorem d_States_addBuilt_30 : decode prog_9_method_10_code 30 = .ok (.iconst 1, 1) := by decide +kernel
theorem d_States_addBuilt_31 : decode prog_9_method_10_code 31 = .ok (.iadd, 1) := by decide +kernel
theorem d_States_addBuilt_32 : decode prog_9_method_10_code 32 = .ok (.iastore, 1) := by decide +kernel
theorem d_States_addBuilt_33 : decode prog_9_method_10_code 33 = .ok (.aload_n 0, 1) := by decide +kernel
theorem d_States_addBuilt_34 : decode prog_9_method_10_code 34 = .ok (.getfield 19, 3) := by decide +kernel
theorem d_States_addBuilt_37 : decode prog_9_method_10_code 37 = .ok (.aload_n 0, 1) := by decide +kernel
theorem d_States_addBuilt_38 : decode prog_9_method_10_code 38 = .ok (.getfield 40, 3) := by decide +kernel
theorem d_States_addBuilt_41 : decode prog_9_method_10_code 41 = .ok (.iload_n 2, 1) := by decide +kernel
theorem d_States_addBuilt_42 : decode prog_9_method_10_code 42 = .ok (.iastore, 1) := by decide +kernel
theorem d_States_addBuilt_43 : decode prog_9_method_10_code 43 = .ok (.aload_n 0, 1) := by decide +kernel
theorem d_States_addBuilt_44 : decode prog_9_method_10_code 44 = .ok (.getfield 22, 3) := by decide +kernel
theorem d_States_addBuilt_47 : decode prog_9_method_10_code 47 = .ok (.aload_n 0, 1) := by decide +kernel
theorem d_States_addBuilt_48 : decode prog_9_method_10_code 48 = .ok (.getfield 40, 3) := by decide +kernel
theorem d_States_addBuilt_51 : decode prog_9_method_10_code 51 = .ok (.iload_n 3, 1) := by decide +kernel
theorem d_States_addBuilt_52 : decode prog_9_method_10_code 52 = .ok (.iastore, 1) := by decide +kernel
theorem d_States_addBuilt_53 : decode prog_9_method_10_code 53 = .ok (.aload_n 0, 1) := by decide +kernel
theorem d_States_addBuilt_54 : decode prog_9_method_10_code 54 = .ok (.getfield 31, 3) := by decide +kernel
theorem d_States_addBuilt_57 : decode prog_9_method_10_code 57 = .ok (.aload_n 0, 1) := by decide +kernel
theorem d_States_addBuilt_58 : decode prog_9_method_10_code 58 = .ok (.getfield 40, 3) := by decide +kernel
theorem d_States_addBuilt_61 : decode prog_9_method_10_code 61 = .ok (.iload_n 1, 1) := by decide +kernel
theorem d_States_addBuilt_62 : decode prog_9_method_10_code 62 = .ok (.iastore, 1) := by decide +kernel
theorem d_States_addBuilt_63 : decode prog_9_method_10_code 63 = .ok (.aload_n 0, 1) := by decide +kernel
theorem d_States_addBuilt_64 : decode prog_9_method_10_code 64 = .ok (.getfield 37, 3) := by decide +kernel
theorem d_States_addBuilt_67 : decode prog_9_method_10_code 67 = .ok (.aload_n 0, 1) := by decide +kernel
theorem d_States_addBuilt_68 : decode prog_9_method_10_code 68 = .ok (.getfield 40, 3) := by decide +kernel
theorem d_States_addBuilt_71 : decode prog_9_method_10_code 71 = .ok (.aload_n 0, 1) := by decide +kernel
theorem d_States_addBuilt_72 : decode prog_9_method_10_code 72 = .ok (.getfield 34, 3) := by decide +kernel
theorem d_States_addBuilt_75 : decode prog_9_method_10_code 75 = .ok (.iload 4, 2) := by decide +kernel
theorem d_States_addBuilt_77 : decode prog_9_method_10_code 77 = .ok (.iaload, 1) := by decide +kernel
theorem d_States_addBuilt_78 : decode prog_9_method_10_code 78 = .ok (.iastore, 1) := by decide +kernel
theorem d_States_addBuilt_79 : decode prog_9_method_10_code 79 = .ok (.aload_n 0, 1) := by decide +kernel
theorem d_States_addBuilt_80 : decode prog_9_method_10_code 80 = .ok (.getfield 34, 3) := by decide +kernel
theorem d_States_addBuilt_83 : decode prog_9_method_10_code 83 = .ok (.iload 4, 2) := by decide +kernel
theorem d_States_addBuilt_85 : decode prog_9_method_10_code 85 = .ok (.aload_n 0, 1) := by decide +kernel
theorem d_States_addBuilt_86 : decode prog_9_method_10_code 86 = .ok (.getfield 40, 3) := by decide +kernel
theorem d_States_addBuilt_89 : decode prog_9_method_10_code 89 = .ok (.iastore, 1) := by decide +kernel
theorem d_States_addBuilt_90 : decode prog_9_method_10_code 90 = .ok (.aload_n 0, 1) := by decide +kernel
theorem d_States_addBuilt_91 : decode prog_9_method_10_code 91 = .ok (.dup, 1) := by decide +kernel
theorem d_States_addBuilt_92 : decode prog_9_method_10_code 92 = .ok (.getfield 40, 3) := by decide +kernel
theorem d_States_addBuilt_95 : decode prog_9_method_10_code 95 = .ok (.iconst 1, 1) := by decide +kernel
theorem d_States_addBuilt_96 : decode prog_9_method_10_code 96 = .ok (.iadd, 1) := by decide +kernel
theorem d_States_addBuilt_97 : decode prog_9_method_10_code 97 = .ok (.putfield 40, 3) := by decide +kernel
theorem d_States_addBuilt_100 : decode prog_9_method_10_code 100 = .ok (.return_, 1) := by decide +kernel
def zf_States_addBuilt_32 (F : Nat)  (x1 : Int32) (x2 : Int32) (x3 : Int32) (x4 : Int32) (t0 : Int32) (t1 : Int32) (σ : zs_S) : Option (zs_S) :=
  zq_g (zq_b t1 800) <|
  zq_v (zs_wi σ 12 ((t1).toNatClampNeg) t0) fun σ4 =>
  zq_g (zq_b (zs_i σ4 10 9) 800) <|
  zq_v (zs_wi σ4 13 ((zs_i σ4 10 9).toNatClampNeg) x2) fun σ6 =>
  zq_g (zq_b (zs_i σ6 10 9) 800) <|
  zq_v (zs_wi σ6 14 ((zs_i σ6 10 9).toNatClampNeg) x3) fun σ8 =>
  zq_g (zq_b (zs_i σ8 10 9) 800) <|
  zq_v (zs_wi σ8 17 ((zs_i σ8 10 9).toNatClampNeg) x1) fun σ10 =>
  zq_g (zq_b x4 1024) <|
  zq_g (zq_b (zs_i σ10 10 9) 800) <|
  zq_v (zs_wi σ10 19 ((zs_i σ10 10 9).toNatClampNeg) (zs_i σ10 18 (x4).toNatClampNeg)) fun σ13 =>
  zq_g (zq_b x4 1024) <|
  zq_v (zs_wi σ13 18 ((x4).toNatClampNeg) (zs_i σ13 10 9)) fun σ15 =>
  zq_v (zs_wi σ15 10 9 ((zs_i σ15 10 9) + 1)) fun σ16 =>
  some σ16
def zf_States_addBuilt (F : Nat) (x1 : Int32) (x2 : Int32) (x3 : Int32) (σ : zs_S) : Option (zs_S) :=
  zq_v (x1 &&& 1023) fun v1 =>
  if x2 = ((-1)) then (
    zf_States_addBuilt_32 F x1 x2 x3 v1 0 (zs_i σ 10 9) σ
  ) else (
    zq_g (zq_b x2 800) <|
    zf_States_addBuilt_32 F x1 x2 x3 v1 ((zs_i σ 12 (x2).toNatClampNeg) + 1) (zs_i σ 10 9) σ
  )
set_option maxHeartbeats 4000000 in
set_option maxRecDepth 100000 in
theorem zc_States_addBuilt {l : Launch} {D : va_G} {cA : Nat → ClassId} {ad : Nat → Nat} {A : Nat → Prop} {F : Nat} {x1 : Int32} {x2 : Int32} {x3 : Int32} {σ : zs_S} {q : zs_S} (hJ : zs_J ad) (hf : zf_States_addBuilt F x1 x2 x3 σ = some q) : Met l y_States_addBuilt (.code y_States_addBuilt prog_9_method_10_code 5 none :: zd_ww) { frames := 0, cells := 0, slots := 0, locals := 0 } (va_Pc [.ref (ad 10), .int x1, .int x2, .int x3] (zs_U 0 D cA ad A σ)) (zs_Qv 0 D cA ad A q) 0 0 A := by
  refine Met.ofW (cc := prog_9_method_10_code) (maxL := 5) (ret := none) (by decide) rfl ?_
  intro p e s m args below meth c s₁ B hml hv
  obtain ⟨hargs, hP, hK, hD, hZ⟩ := hv
  have G : zs_G 0 p s m args c prog_9_method_10_code 5 "ScheduleCheck$States" D cA ad A := ⟨⟨B.exec, B.bytes, hml, findClass_of_methodNamed B.named, fun w h => atoms_spec B.pre w (List.mem_cons_of_mem _ h)⟩, hK, hJ, hZ⟩
  have hw : zs_I 0 D cA ad A s σ s.heap [] := ⟨hP, hD, va_S.rf⟩
  have hx := G.1.1
  have hb := G.1.2.1
  have hown := G.1.2.2.2.1
  have hts := G.1.2.2.2.2
  have hr := B.returns
  have hlocks := B.notSynchronized
  have he : entryFrame m args 5 = F0 m 0 ((lg_sl [.ref (ad 10), .int x1, .int x2, .int x3] ++ List.replicate (5 - (lg_sl [.ref (ad 10), .int x1, .int x2, .int x3]).length) Slot.unset).toArray) [] := by rw [hargs]; exact lg_entry_eq m _ 5
  have hl := lv_entry [.ref (ad 10), .int x1, .int x2, .int x3] (n := 5) (Nat.le_of_ble_eq_true rfl)
  rw [he]
  generalize (lg_sl [.ref (ad 10), .int x1, .int x2, .int x3] ++ List.replicate (5 - (lg_sl [.ref (ad 10), .int x1, .int x2, .int x3]).length) Slot.unset).toArray = ls at hl
  have hl : lv_has ls 5 [(0, .ref (ad 10)), (1, .int x1), (2, .int x2), (3, .int x3)] := hl
  obtain ⟨RR, hR⟩ : ∃ z, z = (headSpec (.code y_States_addBuilt prog_9_method_10_code 5 none :: zd_ww) { frames := 0, cells := 0, slots := 0, locals := 0 }).room := ⟨_, rfl⟩
  rw [← hR]
  obtain ⟨QQ, hQ⟩ : ∃ z, z = MQ below (zs_Qv 0 D cA ad A q) args s 0 0 A := ⟨_, rfl⟩
  rw [← hQ]
  have hR1 : 0 ≤ RR.frames := by rw [hR]; exact Nat.le_refl _
  have hR2 : 0 ≤ RR.locals := by rw [hR]; exact Nat.le_refl _
  generalize s.heap = H at hw ⊢
  generalize ([] : List Loc) = locs at hw ⊢
  have K32 : ∀ (x1 : Int32) (x2 : Int32) (x3 : Int32) (x4 : Int32) (t0 : Int32) (t1 : Int32) (σ : zs_S) (H : Heap) (locs : List Loc) (ls : Array Slot), zf_States_addBuilt_32 F x1 x2 x3 x4 t0 t1 σ = some q → zs_I 0 D cA ad A s σ H locs → lv_has ls 5 [(0, .ref (ad 10)), (1, .int x1), (2, .int x2), (3, .int x3), (4, .int x4)] → W p l e RR s m args below meth c H locs 0 0 QQ (F0 m 32 ls [.int t0, .int t1, .ref (ad 12)]) := by
    intro  x1 x2 x3 x4 t0 t1 σ H locs ls hf hw hl
    unfold zf_States_addBuilt_32 at hf
    obtain ⟨hi3, hf⟩ := zq_gs hf
    obtain ⟨σ4, e_σ4, hf⟩ := zq_ss hf
    refine zr_iast G hw 12 rfl rfl  hi3  d_States_addBuilt_32 (fun H locs hw => ?_)
    rw [← e_σ4] at hw
    refine lv_aload_n hx hb d_States_addBuilt_33 rfl (lv_at hl 0 rfl) ?_
    refine zr_get (ci := 3) G hw 10 2 zi_3 rfl rfl rfl (by decide) zm_31 (fun _ h => h) (v := .ref (ad 13)) rfl d_States_addBuilt_34 ?_
    refine lv_aload_n hx hb d_States_addBuilt_37 rfl (lv_at hl 0 rfl) ?_
    refine zr_get (ci := 3) G hw 10 9 zi_3 rfl rfl rfl (by decide) zm_16 (fun _ h => h) (v := .int (zs_i σ4 10 9)) rfl d_States_addBuilt_38 ?_
    refine lv_iload_n hx hb d_States_addBuilt_41 rfl (lv_at hl 2 rfl) ?_
    obtain ⟨hi5, hf⟩ := zq_gs hf
    obtain ⟨σ6, e_σ6, hf⟩ := zq_ss hf
    refine zr_iast G hw 13 rfl rfl  hi5  d_States_addBuilt_42 (fun H locs hw => ?_)
    rw [← e_σ6] at hw
    refine lv_aload_n hx hb d_States_addBuilt_43 rfl (lv_at hl 0 rfl) ?_
    refine zr_get (ci := 3) G hw 10 3 zi_3 rfl rfl rfl (by decide) zm_32 (fun _ h => h) (v := .ref (ad 14)) rfl d_States_addBuilt_44 ?_
    refine lv_aload_n hx hb d_States_addBuilt_47 rfl (lv_at hl 0 rfl) ?_
    refine zr_get (ci := 3) G hw 10 9 zi_3 rfl rfl rfl (by decide) zm_16 (fun _ h => h) (v := .int (zs_i σ6 10 9)) rfl d_States_addBuilt_48 ?_
    refine lv_iload_n hx hb d_States_addBuilt_51 rfl (lv_at hl 3 rfl) ?_
    obtain ⟨hi7, hf⟩ := zq_gs hf
    obtain ⟨σ8, e_σ8, hf⟩ := zq_ss hf
    refine zr_iast G hw 14 rfl rfl  hi7  d_States_addBuilt_52 (fun H locs hw => ?_)
    rw [← e_σ8] at hw
    refine lv_aload_n hx hb d_States_addBuilt_53 rfl (lv_at hl 0 rfl) ?_
    refine zr_get (ci := 3) G hw 10 6 zi_3 rfl rfl rfl (by decide) zm_33 (fun _ h => h) (v := .ref (ad 17)) rfl d_States_addBuilt_54 ?_
    refine lv_aload_n hx hb d_States_addBuilt_57 rfl (lv_at hl 0 rfl) ?_
    refine zr_get (ci := 3) G hw 10 9 zi_3 rfl rfl rfl (by decide) zm_16 (fun _ h => h) (v := .int (zs_i σ8 10 9)) rfl d_States_addBuilt_58 ?_
    refine lv_iload_n hx hb d_States_addBuilt_61 rfl (lv_at hl 1 rfl) ?_
    obtain ⟨hi9, hf⟩ := zq_gs hf
    obtain ⟨σ10, e_σ10, hf⟩ := zq_ss hf
    refine zr_iast G hw 17 rfl rfl  hi9  d_States_addBuilt_62 (fun H locs hw => ?_)
    rw [← e_σ10] at hw
    refine lv_aload_n hx hb d_States_addBuilt_63 rfl (lv_at hl 0 rfl) ?_
    refine zr_get (ci := 3) G hw 10 8 zi_3 rfl rfl rfl (by decide) zm_34 (fun _ h => h) (v := .ref (ad 19)) rfl d_States_addBuilt_64 ?_
    refine lv_aload_n hx hb d_States_addBuilt_67 rfl (lv_at hl 0 rfl) ?_
    refine zr_get (ci := 3) G hw 10 9 zi_3 rfl rfl rfl (by decide) zm_16 (fun _ h => h) (v := .int (zs_i σ10 10 9)) rfl d_States_addBuilt_68 ?_
    refine lv_aload_n hx hb d_States_addBuilt_71 rfl (lv_at hl 0 rfl) ?_
    refine zr_get (ci := 3) G hw 10 7 zi_3 rfl rfl rfl (by decide) zm_19 (fun _ h => h) (v := .ref (ad 18)) rfl d_States_addBuilt_72 ?_
    refine lv_iload hx hb d_States_addBuilt_75 (lv_at hl 4 rfl) ?_
    obtain ⟨hi11, hf⟩ := zq_gs hf
    refine zr_iald G hw 18 rfl rfl hi11 d_States_addBuilt_77 ?_
    obtain ⟨hi12, hf⟩ := zq_gs hf
    obtain ⟨σ13, e_σ13, hf⟩ := zq_ss hf
    refine zr_iast G hw 19 rfl rfl  hi12  d_States_addBuilt_78 (fun H locs hw => ?_)
    rw [← e_σ13] at hw
    refine lv_aload_n hx hb d_States_addBuilt_79 rfl (lv_at hl 0 rfl) ?_
    refine zr_get (ci := 3) G hw 10 7 zi_3 rfl rfl rfl (by decide) zm_19 (fun _ h => h) (v := .ref (ad 18)) rfl d_States_addBuilt_80 ?_
    refine lv_iload hx hb d_States_addBuilt_83 (lv_at hl 4 rfl) ?_
    refine lv_aload_n hx hb d_States_addBuilt_85 rfl (lv_at hl 0 rfl) ?_
    refine zr_get (ci := 3) G hw 10 9 zi_3 rfl rfl rfl (by decide) zm_16 (fun _ h => h) (v := .int (zs_i σ13 10 9)) rfl d_States_addBuilt_86 ?_
    obtain ⟨hi14, hf⟩ := zq_gs hf
    obtain ⟨σ15, e_σ15, hf⟩ := zq_ss hf
    refine zr_iast G hw 18 rfl rfl  hi14  d_States_addBuilt_89 (fun H locs hw => ?_)
    rw [← e_σ15] at hw
    refine lv_aload_n hx hb d_States_addBuilt_90 rfl (lv_at hl 0 rfl) ?_
    refine lv_dup hx hb d_States_addBuilt_91 rfl ?_
    refine zr_get (ci := 3) G hw 10 9 zi_3 rfl rfl rfl (by decide) zm_16 (fun _ h => h) (v := .int (zs_i σ15 10 9)) rfl d_States_addBuilt_92 ?_
    refine lv_iconst (v := 1) hx hb d_States_addBuilt_95 (by decide) ?_
    refine lv_iadd hx hb d_States_addBuilt_96 ?_
    obtain ⟨σ16, e_σ16, hf⟩ := zq_ss hf
    refine zr_puti (ci := 3) G hw 10 9 zi_3 t_zd3 t_zd3_ok n_zd3 rfl rfl rfl (by decide) rfl zm_16 (fun _ h => h) rfl (x := ((zs_i σ15 10 9) + 1)) (t_zd3_ok 9 (by decide)) rfl rfl d_States_addBuilt_97 (fun H locs hw => ?_)
    rw [← e_σ16] at hw
    exact zr_vret G hw hr hlocks hf hQ d_States_addBuilt_100
  unfold zf_States_addBuilt at hf
  refine lv_iload_n hx hb d_States_addBuilt_0 rfl (lv_at hl 1 rfl) ?_
  refine lv_sipush (v := 1023) hx hb d_States_addBuilt_1 (by decide) ?_
  refine lv_iand hx hb d_States_addBuilt_4 ?_
  refine lv_topi (fun v1 e_v1 => ?_)
  have hf := zq_vs e_v1 hf
  refine lv_istore hx hb d_States_addBuilt_5 hl (by decide) rfl (fun ls hl => ?_)
  have hl : lv_has ls 5 [(4, .int v1), (0, .ref (ad 10)), (1, .int x1), (2, .int x2), (3, .int x3)] := hl
  refine lv_aload_n hx hb d_States_addBuilt_7 rfl (lv_at hl 1 rfl) ?_
  refine zr_get (ci := 3) G hw 10 1 zi_3 rfl rfl rfl (by decide) zm_30 (fun _ h => h) (v := .ref (ad 12)) rfl d_States_addBuilt_8 ?_
  refine lv_aload_n hx hb d_States_addBuilt_11 rfl (lv_at hl 1 rfl) ?_
  refine zr_get (ci := 3) G hw 10 9 zi_3 rfl rfl rfl (by decide) zm_16 (fun _ h => h) (v := .int (zs_i σ 10 9)) rfl d_States_addBuilt_12 ?_
  refine lv_iload_n hx hb d_States_addBuilt_15 rfl (lv_at hl 3 rfl) ?_
  refine lv_iconst (v := (-1)) hx hb d_States_addBuilt_16 (by decide) ?_
  refine lv_icmp_ne hx hb d_States_addBuilt_17 (tgt := 24) rfl (fun hc => ?_) (fun hc => ?_)
  · have hf := (if_neg hc).symm.trans hf
    refine lv_aload_n hx hb d_States_addBuilt_24 rfl (lv_at hl 1 rfl) ?_
    refine zr_get (ci := 3) G hw 10 1 zi_3 rfl rfl rfl (by decide) zm_30 (fun _ h => h) (v := .ref (ad 12)) rfl d_States_addBuilt_25 ?_
    refine lv_iload_n hx hb d_States_addBuilt_28 rfl (lv_at hl 3 rfl) ?_
    obtain ⟨hi2, hf⟩ := zq_gs hf
    refine zr_iald G hw 12 rfl rfl hi2 d_States_addBuilt_29 ?_
    refine lv_iconst (v := 1) hx hb d_States_addBuilt_30 (by decide) ?_
    refine lv_iadd hx hb d_States_addBuilt_31 ?_
    exact K32 x1 x2 x3 v1 ((zs_i σ 12 (x2).toNatClampNeg) + 1) (zs_i σ 10 9) σ H locs ls hf hw (lv_sub hl [1, 2, 3, 4, 0] rfl)
  · have hf := (if_pos hc).symm.trans hf
    refine lv_iconst (v := 0) hx hb d_States_addBuilt_20 (by decide) ?_
    refine lv_goto hx hb d_States_addBuilt_21 (tgt := 32) rfl ?_
    exact K32 x1 x2 x3 v1 0 (zs_i σ 10 9) σ H locs ls hf hw (lv_sub hl [1, 2, 3, 4, 0] rfl)
/-! ScheduleCheck$States.hashBuilt -/
def y_States_hashBuilt : MethodName := ⟨"ScheduleCheck$States","hashBuilt","()I"⟩
theorem d_States_hashBuilt_0 : decode prog_9_method_11_code 0 = .ok (.iconst 0, 1) := by decide +kernel
theorem d_States_hashBuilt_1 : decode prog_9_method_11_code 1 = .ok (.istore_n 1, 1) := by decide +kernel
theorem d_States_hashBuilt_2 : decode prog_9_method_11_code 2 = .ok (.aload_n 0, 1) := by decide +kernel
theorem d_States_hashBuilt_3 : decode prog_9_method_11_code 3 = .ok (.getfield 40, 3) := by decide +kernel
theorem d_States_hashBuilt_6 : decode prog_9_method_11_code 6 = .ok (.bipush 34, 2) := by decide +kernel
theorem d_States_hashBuilt_8 : decode prog_9_method_11_code 8 = .ok (.imul, 1) := by decide +kernel
theorem d_States_hashBuilt_9 : decode prog_9_method_11_code 9 = .ok (.istore_n 2, 1) := by decide +kernel
theorem d_States_hashBuilt_10 : decode prog_9_method_11_code 10 = .ok (.iconst 0, 1) := by decide +kernel
theorem d_States_hashBuilt_11 : decode prog_9_method_11_code 11 = .ok (.istore_n 3, 1) := by decide +kernel
theorem d_States_hashBuilt_12 : decode prog_9_method_11_code 12 = .ok (.iload_n 3, 1) := by decide +kernel
theorem d_States_hashBuilt_13 : decode prog_9_method_11_code 13 = .ok (.bipush 34, 2) := by decide +kernel
theorem d_States_hashBuilt_15 : decode prog_9_method_11_code 15 = .ok (.if_icmp .ge 23, 3) := by decide +kernel
theorem d_States_hashBuilt_18 : decode prog_9_method_11_code 18 = .ok (.iload_n 1, 1) := by decide +kernel
theorem d_States_hashBuilt_19 : decode prog_9_method_11_code 19 = .ok (.bipush 31, 2) := by decide +kernel
theorem d_States_hashBuilt_21 : decode prog_9_method_11_code 21 = .ok (.imul, 1) := by decide +kernel
theorem d_States_hashBuilt_22 : decode prog_9_method_11_code 22 = .ok (.aload_n 0, 1) := by decide +kernel
theorem d_States_hashBuilt_23 : decode prog_9_method_11_code 23 = .ok (.getfield 9, 3) := by decide +kernel
theorem d_States_hashBuilt_26 : decode prog_9_method_11_code 26 = .ok (.iload_n 2, 1) := by decide +kernel
theorem d_States_hashBuilt_27 : decode prog_9_method_11_code 27 = .ok (.iload_n 3, 1) := by decide +kernel
theorem d_States_hashBuilt_28 : decode prog_9_method_11_code 28 = .ok (.iadd, 1) := by decide +kernel
theorem d_States_hashBuilt_29 : decode prog_9_method_11_code 29 = .ok (.baload, 1) := by decide +kernel
theorem d_States_hashBuilt_30 : decode prog_9_method_11_code 30 = .ok (.iadd, 1) := by decide +kernel
theorem d_States_hashBuilt_31 : decode prog_9_method_11_code 31 = .ok (.istore_n 1, 1) := by decide +kernel
theorem d_States_hashBuilt_32 : decode prog_9_method_11_code 32 = .ok (.iinc 3 1, 3) := by decide +kernel
theorem d_States_hashBuilt_35 : decode prog_9_method_11_code 35 = .ok (.goto (-23), 3) := by decide +kernel
theorem d_States_hashBuilt_38 : decode prog_9_method_11_code 38 = .ok (.iload_n 1, 1) := by decide +kernel
theorem d_States_hashBuilt_39 : decode prog_9_method_11_code 39 = .ok (.ireturn, 1) := by decide +kernel
def zf_States_hashBuilt_12 (F : Nat)  : Nat → Int32 → Int32 → Int32 → zs_S → Option (Int32 × zs_S)
  | 0, _, _, _, _ => none
  | n + 1, x1, x2, x3, σ =>
    if 34 ≤ x3 then (
      some (x1, σ)
    ) else (
      zq_g (zq_b (x2 + x3) 27234) <|
      zq_v ((x1 * 31) + (zs_i σ 11 (x2 + x3).toNatClampNeg)) fun v3 =>
      zq_v (x3 + 1) fun v4 =>
      (zf_States_hashBuilt_12 F n) v3 x2 v4 σ
    )
def zf_States_hashBuilt (F : Nat)  (σ : zs_S) : Option (Int32 × zs_S) :=
  zq_v ((zs_i σ 10 9) * 34) fun v1 =>
  zf_States_hashBuilt_12 F F 0 v1 0 σ
set_option maxHeartbeats 4000000 in
set_option maxRecDepth 100000 in
theorem zc_States_hashBuilt {l : Launch} {D : va_G} {cA : Nat → ClassId} {ad : Nat → Nat} {A : Nat → Prop} {F : Nat}  {σ : zs_S} {q : Int32 × zs_S} (hJ : zs_J ad) (hf : zf_States_hashBuilt F  σ = some q) : Met l y_States_hashBuilt (.code y_States_hashBuilt prog_9_method_11_code 4 (some .int) :: zd_ww) { frames := 0, cells := 0, slots := 0, locals := 0 } (va_Pc [.ref (ad 10)] (zs_U 0 D cA ad A σ)) (zs_Qi 0 D cA ad A q) 0 0 A := by
  refine Met.ofW (cc := prog_9_method_11_code) (maxL := 4) (ret := (some .int)) (by decide) rfl ?_
  intro p e s m args below meth c s₁ B hml hv
  obtain ⟨hargs, hP, hK, hD, hZ⟩ := hv
  have G : zs_G 0 p s m args c prog_9_method_11_code 4 "ScheduleCheck$States" D cA ad A := ⟨⟨B.exec, B.bytes, hml, findClass_of_methodNamed B.named, fun w h => atoms_spec B.pre w (List.mem_cons_of_mem _ h)⟩, hK, hJ, hZ⟩
  have hw : zs_I 0 D cA ad A s σ s.heap [] := ⟨hP, hD, va_S.rf⟩
  have hx := G.1.1
  have hb := G.1.2.1
  have hown := G.1.2.2.2.1
  have hts := G.1.2.2.2.2
  have hr := B.returns
  have hlocks := B.notSynchronized
  have he : entryFrame m args 4 = F0 m 0 ((lg_sl [.ref (ad 10)] ++ List.replicate (4 - (lg_sl [.ref (ad 10)]).length) Slot.unset).toArray) [] := by rw [hargs]; exact lg_entry_eq m _ 4
  have hl := lv_entry [.ref (ad 10)] (n := 4) (Nat.le_of_ble_eq_true rfl)
  rw [he]
  generalize (lg_sl [.ref (ad 10)] ++ List.replicate (4 - (lg_sl [.ref (ad 10)]).length) Slot.unset).toArray = ls at hl
  have hl : lv_has ls 4 [(0, .ref (ad 10))] := hl
  obtain ⟨RR, hR⟩ : ∃ z, z = (headSpec (.code y_States_hashBuilt prog_9_method_11_code 4 (some .int) :: zd_ww) { frames := 0, cells := 0, slots := 0, locals := 0 }).room := ⟨_, rfl⟩
  rw [← hR]
  obtain ⟨QQ, hQ⟩ : ∃ z, z = MQ below (zs_Qi 0 D cA ad A q) args s 0 0 A := ⟨_, rfl⟩
  rw [← hQ]
  have hR1 : 0 ≤ RR.frames := by rw [hR]; exact Nat.le_refl _
  have hR2 : 0 ≤ RR.locals := by rw [hR]; exact Nat.le_refl _
  generalize s.heap = H at hw ⊢
  generalize ([] : List Loc) = locs at hw ⊢
  have K12 : ∀ (n : Nat) (x1 : Int32) (x2 : Int32) (x3 : Int32) (σ : zs_S) (H : Heap) (locs : List Loc) (ls : Array Slot), zf_States_hashBuilt_12 F n x1 x2 x3 σ = some q → zs_I 0 D cA ad A s σ H locs → lv_has ls 4 [(0, .ref (ad 10)), (1, .int x1), (2, .int x2), (3, .int x3)] → W p l e RR s m args below meth c H locs 0 0 QQ (F0 m 12 ls []) := by
    intro  n
    induction n with
    | zero => intro x1 x2 x3 σ H locs ls hf hw hl; exact nomatch (show (none : Option (Int32 × zs_S)) = some q from hf)
    | succ n ih =>
      intro x1 x2 x3 σ H locs ls hf hw hl
      rw [zf_States_hashBuilt_12] at hf
      refine lv_iload_n hx hb d_States_hashBuilt_12 rfl (lv_at hl 3 rfl) ?_
      refine lv_bipush (v := 34) hx hb d_States_hashBuilt_13 (by decide) ?_
      refine lv_icmp_ge hx hb d_States_hashBuilt_15 (tgt := 38) rfl (fun hc => ?_) (fun hc => ?_)
      · have hf := (if_pos hc).symm.trans hf
        refine lv_iload_n hx hb d_States_hashBuilt_38 rfl (lv_at hl 1 rfl) ?_
        exact zr_iret G hw hr hlocks hf hQ d_States_hashBuilt_39
      · have hf := (if_neg hc).symm.trans hf
        refine lv_iload_n hx hb d_States_hashBuilt_18 rfl (lv_at hl 1 rfl) ?_
        refine lv_bipush (v := 31) hx hb d_States_hashBuilt_19 (by decide) ?_
        refine lv_imul hx hb d_States_hashBuilt_21 ?_
        refine lv_aload_n hx hb d_States_hashBuilt_22 rfl (lv_at hl 0 rfl) ?_
        refine zr_get (ci := 3) G hw 10 0 zi_3 rfl rfl rfl (by decide) zm_24 (fun _ h => h) (v := .ref (ad 11)) rfl d_States_hashBuilt_23 ?_
        refine lv_iload_n hx hb d_States_hashBuilt_26 rfl (lv_at hl 2 rfl) ?_
        refine lv_iload_n hx hb d_States_hashBuilt_27 rfl (lv_at hl 3 rfl) ?_
        refine lv_iadd hx hb d_States_hashBuilt_28 ?_
        obtain ⟨hi2, hf⟩ := zq_gs hf
        refine zr_bald G hw 11 rfl rfl hi2 d_States_hashBuilt_29 ?_
        refine lv_iadd hx hb d_States_hashBuilt_30 ?_
        refine lv_topi (fun v3 e_v3 => ?_)
        have hf := zq_vs e_v3 hf
        refine lv_istore_n hx hb d_States_hashBuilt_31 rfl hl (by decide) rfl (fun ls hl => ?_)
        have hl : lv_has ls 4 [(1, .int v3), (0, .ref (ad 10)), (2, .int x2), (3, .int x3)] := hl
        obtain ⟨v4, e_v4, hf⟩ := zq_ss hf
        refine lv_iinc (v := v4) hx hb d_States_hashBuilt_32 hl (k := 3) rfl (zq_inc (k := 1) (by decide) e_v4) (by decide) rfl (fun ls hl => ?_)
        have hl : lv_has ls 4 [(3, .int v4), (1, .int v3), (0, .ref (ad 10)), (2, .int x2)] := hl
        refine lv_goto hx hb d_States_hashBuilt_35 (tgt := 12) rfl ?_
        exact ih v3 x2 v4 σ H locs ls hf hw (lv_sub hl [2, 1, 3, 0] rfl)
  unfold zf_States_hashBuilt at hf
  refine lv_iconst (v := 0) hx hb d_States_hashBuilt_0 (by decide) ?_
  refine lv_istore_n hx hb d_States_hashBuilt_1 rfl hl (by decide) rfl (fun ls hl => ?_)
  have hl : lv_has ls 4 [(1, .int 0), (0, .ref (ad 10))] := hl
  refine lv_aload_n hx hb d_States_hashBuilt_2 rfl (lv_at hl 1 rfl) ?_
  refine zr_get (ci := 3) G hw 10 9 zi_3 rfl rfl rfl (by decide) zm_16 (fun _ h => h) (v := .int (zs_i σ 10 9)) rfl d_States_hashBuilt_3 ?_
  refine lv_bipush (v := 34) hx hb d_States_hashBuilt_6 (by decide) ?_
  refine lv_imul hx hb d_States_hashBuilt_8 ?_
  refine lv_topi (fun v1 e_v1 => ?_)
  have hf := zq_vs e_v1 hf
  refine lv_istore_n hx hb d_States_hashBuilt_9 rfl hl (by decide) rfl (fun ls hl => ?_)
  have hl : lv_has ls 4 [(2, .int v1), (1, .int 0), (0, .ref (ad 10))] := hl
  refine lv_iconst (v := 0) hx hb d_States_hashBuilt_10 (by decide) ?_
  refine lv_istore_n hx hb d_States_hashBuilt_11 rfl hl (by decide) rfl (fun ls hl => ?_)
  have hl : lv_has ls 4 [(3, .int 0), (2, .int v1), (1, .int 0), (0, .ref (ad 10))] := hl
  exact K12 F 0 v1 0 σ H locs ls hf hw (lv_sub hl [3, 2, 1, 0] rfl)
/-! ScheduleCheck$States.isBuilt -/
def y_States_isBuilt : MethodName := ⟨"ScheduleCheck$States","isBuilt","(I)Z"⟩
theorem d_States_isBuilt_0 : decode prog_9_method_13_code 0 = .ok (.iconst 0, 1) := by decide +kernel
theorem d_States_isBuilt_1 : decode prog_9_method_13_code 1 = .ok (.istore_n 2, 1) := by decide +kernel
theorem d_States_isBuilt_2 : decode prog_9_method_13_code 2 = .ok (.iload_n 2, 1) := by decide +kernel
theorem d_States_isBuilt_3 : decode prog_9_method_13_code 3 = .ok (.bipush 34, 2) := by decide +kernel
theorem d_States_isBuilt_5 : decode prog_9_method_13_code 5 = .ok (.if_icmp .ge 39, 3) := by decide +kernel
theorem d_States_isBuilt_8 : decode prog_9_method_13_code 8 = .ok (.aload_n 0, 1) := by decide +kernel
theorem d_States_isBuilt_9 : decode prog_9_method_13_code 9 = .ok (.getfield 9, 3) := by decide +kernel
theorem d_States_isBuilt_12 : decode prog_9_method_13_code 12 = .ok (.iload_n 1, 1) := by decide +kernel
theorem d_States_isBuilt_13 : decode prog_9_method_13_code 13 = .ok (.bipush 34, 2) := by decide +kernel
theorem d_States_isBuilt_15 : decode prog_9_method_13_code 15 = .ok (.imul, 1) := by decide +kernel
theorem d_States_isBuilt_16 : decode prog_9_method_13_code 16 = .ok (.iload_n 2, 1) := by decide +kernel
theorem d_States_isBuilt_17 : decode prog_9_method_13_code 17 = .ok (.iadd, 1) := by decide +kernel
theorem d_States_isBuilt_18 : decode prog_9_method_13_code 18 = .ok (.baload, 1) := by decide +kernel
theorem d_States_isBuilt_19 : decode prog_9_method_13_code 19 = .ok (.aload_n 0, 1) := by decide +kernel
theorem d_States_isBuilt_20 : decode prog_9_method_13_code 20 = .ok (.getfield 9, 3) := by decide +kernel
theorem d_States_isBuilt_23 : decode prog_9_method_13_code 23 = .ok (.aload_n 0, 1) := by decide +kernel
theorem d_States_isBuilt_24 : decode prog_9_method_13_code 24 = .ok (.getfield 40, 3) := by decide +kernel
theorem d_States_isBuilt_27 : decode prog_9_method_13_code 27 = .ok (.bipush 34, 2) := by decide +kernel
theorem d_States_isBuilt_29 : decode prog_9_method_13_code 29 = .ok (.imul, 1) := by decide +kernel
theorem d_States_isBuilt_30 : decode prog_9_method_13_code 30 = .ok (.iload_n 2, 1) := by decide +kernel
theorem d_States_isBuilt_31 : decode prog_9_method_13_code 31 = .ok (.iadd, 1) := by decide +kernel
theorem d_States_isBuilt_32 : decode prog_9_method_13_code 32 = .ok (.baload, 1) := by decide +kernel
theorem d_States_isBuilt_33 : decode prog_9_method_13_code 33 = .ok (.if_icmp .eq 5, 3) := by decide +kernel
theorem d_States_isBuilt_36 : decode prog_9_method_13_code 36 = .ok (.iconst 0, 1) := by decide +kernel
theorem d_States_isBuilt_37 : decode prog_9_method_13_code 37 = .ok (.ireturn, 1) := by decide +kernel
theorem d_States_isBuilt_38 : decode prog_9_method_13_code 38 = .ok (.iinc 2 1, 3) := by decide +kernel
theorem d_States_isBuilt_41 : decode prog_9_method_13_code 41 = .ok (.goto (-39), 3) := by decide +kernel
theorem d_States_isBuilt_44 : decode prog_9_method_13_code 44 = .ok (.iconst 1, 1) := by decide +kernel
theorem d_States_isBuilt_45 : decode prog_9_method_13_code 45 = .ok (.ireturn, 1) := by decide +kernel
def zf_States_isBuilt_2 (F : Nat)  : Nat → Int32 → Int32 → zs_S → Option (Int32 × zs_S)
  | 0, _, _, _ => none
  | n + 1, x1, x2, σ =>
    if 34 ≤ x2 then (
      some (1, σ)
    ) else (
      zq_g (zq_b ((x1 * 34) + x2) 27234) <|
      zq_g (zq_b (((zs_i σ 10 9) * 34) + x2) 27234) <|
      if (zs_i σ 11 ((x1 * 34) + x2).toNatClampNeg) = (zs_i σ 11 (((zs_i σ 10 9) * 34) + x2).toNatClampNeg) then (
        zq_v (x2 + 1) fun v3 =>
        (zf_States_isBuilt_2 F n) x1 v3 σ
      ) else (
        some (0, σ)
      )
    )
def zf_States_isBuilt (F : Nat) (x1 : Int32) (σ : zs_S) : Option (Int32 × zs_S) :=
  zf_States_isBuilt_2 F F x1 0 σ
set_option maxHeartbeats 4000000 in
set_option maxRecDepth 100000 in
theorem zc_States_isBuilt {l : Launch} {D : va_G} {cA : Nat → ClassId} {ad : Nat → Nat} {A : Nat → Prop} {F : Nat} {x1 : Int32} {σ : zs_S} {q : Int32 × zs_S} (hJ : zs_J ad) (hf : zf_States_isBuilt F x1 σ = some q) : Met l y_States_isBuilt (.code y_States_isBuilt prog_9_method_13_code 3 (some .boolean) :: zd_ww) { frames := 0, cells := 0, slots := 0, locals := 0 } (va_Pc [.ref (ad 10), .int x1] (zs_U 0 D cA ad A σ)) (zs_Qi 0 D cA ad A q) 0 0 A := by
  refine Met.ofW (cc := prog_9_method_13_code) (maxL := 3) (ret := (some .boolean)) (by decide) rfl ?_
  intro p e s m args below meth c s₁ B hml hv
  obtain ⟨hargs, hP, hK, hD, hZ⟩ := hv
  have G : zs_G 0 p s m args c prog_9_method_13_code 3 "ScheduleCheck$States" D cA ad A := ⟨⟨B.exec, B.bytes, hml, findClass_of_methodNamed B.named, fun w h => atoms_spec B.pre w (List.mem_cons_of_mem _ h)⟩, hK, hJ, hZ⟩
  have hw : zs_I 0 D cA ad A s σ s.heap [] := ⟨hP, hD, va_S.rf⟩
  have hx := G.1.1
  have hb := G.1.2.1
  have hown := G.1.2.2.2.1
  have hts := G.1.2.2.2.2
  have hr := B.returns
  have hlocks := B.notSynchronized
  have he : entryFrame m args 3 = F0 m 0 ((lg_sl [.ref (ad 10), .int x1] ++ List.replicate (3 - (lg_sl [.ref (ad 10), .int x1]).length) Slot.unset).toArray) [] := by rw [hargs]; exact lg_entry_eq m _ 3
  have hl := lv_entry [.ref (ad 10), .int x1] (n := 3) (Nat.le_of_ble_eq_true rfl)
  rw [he]
  generalize (lg_sl [.ref (ad 10), .int x1] ++ List.replicate (3 - (lg_sl [.ref (ad 10), .int x1]).length) Slot.unset).toArray = ls at hl
  have hl : lv_has ls 3 [(0, .ref (ad 10)), (1, .int x1)] := hl
  obtain ⟨RR, hR⟩ : ∃ z, z = (headSpec (.code y_States_isBuilt prog_9_method_13_code 3 (some .boolean) :: zd_ww) { frames := 0, cells := 0, slots := 0, locals := 0 }).room := ⟨_, rfl⟩
  rw [← hR]
  obtain ⟨QQ, hQ⟩ : ∃ z, z = MQ below (zs_Qi 0 D cA ad A q) args s 0 0 A := ⟨_, rfl⟩
  rw [← hQ]
  have hR1 : 0 ≤ RR.frames := by rw [hR]; exact Nat.le_refl _
  have hR2 : 0 ≤ RR.locals := by rw [hR]; exact Nat.le_refl _
  generalize s.heap = H at hw ⊢
  generalize ([] : List Loc) = locs at hw ⊢
  have K2 : ∀ (n : Nat) (x1 : Int32) (x2 : Int32) (σ : zs_S) (H : Heap) (locs : List Loc) (ls : Array Slot), zf_States_isBuilt_2 F n x1 x2 σ = some q → zs_I 0 D cA ad A s σ H locs → lv_has ls 3 [(0, .ref (ad 10)), (1, .int x1), (2, .int x2)] → W p l e RR s m args below meth c H locs 0 0 QQ (F0 m 2 ls []) := by
    intro  n
    induction n with
    | zero => intro x1 x2 σ H locs ls hf hw hl; exact nomatch (show (none : Option (Int32 × zs_S)) = some q from hf)
    | succ n ih =>
      intro x1 x2 σ H locs ls hf hw hl
      rw [zf_States_isBuilt_2] at hf
      refine lv_iload_n hx hb d_States_isBuilt_2 rfl (lv_at hl 2 rfl) ?_
      refine lv_bipush (v := 34) hx hb d_States_isBuilt_3 (by decide) ?_
      refine lv_icmp_ge hx hb d_States_isBuilt_5 (tgt := 44) rfl (fun hc => ?_) (fun hc => ?_)
      · have hf := (if_pos hc).symm.trans hf
        refine lv_iconst (v := 1) hx hb d_States_isBuilt_44 (by decide) ?_
        exact zr_zret G hw hr hlocks (by decide) hf hQ d_States_isBuilt_45
      · have hf := (if_neg hc).symm.trans hf
        refine lv_aload_n hx hb d_States_isBuilt_8 rfl (lv_at hl 0 rfl) ?_
        refine zr_get (ci := 3) G hw 10 0 zi_3 rfl rfl rfl (by decide) zm_24 (fun _ h => h) (v := .ref (ad 11)) rfl d_States_isBuilt_9 ?_
        refine lv_iload_n hx hb d_States_isBuilt_12 rfl (lv_at hl 1 rfl) ?_
        refine lv_bipush (v := 34) hx hb d_States_isBuilt_13 (by decide) ?_
        refine lv_imul hx hb d_States_isBuilt_15 ?_
        refine lv_iload_n hx hb d_States_isBuilt_16 rfl (lv_at hl 2 rfl) ?_
        refine lv_iadd hx hb d_States_isBuilt_17 ?_
        obtain ⟨hi1, hf⟩ := zq_gs hf
        refine zr_bald G hw 11 rfl rfl hi1 d_States_isBuilt_18 ?_
        refine lv_aload_n hx hb d_States_isBuilt_19 rfl (lv_at hl 0 rfl) ?_
        refine zr_get (ci := 3) G hw 10 0 zi_3 rfl rfl rfl (by decide) zm_24 (fun _ h => h) (v := .ref (ad 11)) rfl d_States_isBuilt_20 ?_
        refine lv_aload_n hx hb d_States_isBuilt_23 rfl (lv_at hl 0 rfl) ?_
        refine zr_get (ci := 3) G hw 10 9 zi_3 rfl rfl rfl (by decide) zm_16 (fun _ h => h) (v := .int (zs_i σ 10 9)) rfl d_States_isBuilt_24 ?_
        refine lv_bipush (v := 34) hx hb d_States_isBuilt_27 (by decide) ?_
        refine lv_imul hx hb d_States_isBuilt_29 ?_
        refine lv_iload_n hx hb d_States_isBuilt_30 rfl (lv_at hl 2 rfl) ?_
        refine lv_iadd hx hb d_States_isBuilt_31 ?_
        obtain ⟨hi2, hf⟩ := zq_gs hf
        refine zr_bald G hw 11 rfl rfl hi2 d_States_isBuilt_32 ?_
        refine lv_icmp_eq hx hb d_States_isBuilt_33 (tgt := 38) rfl (fun hc => ?_) (fun hc => ?_)
        · have hf := (if_pos hc).symm.trans hf
          obtain ⟨v3, e_v3, hf⟩ := zq_ss hf
          refine lv_iinc (v := v3) hx hb d_States_isBuilt_38 hl (k := 2) rfl (zq_inc (k := 1) (by decide) e_v3) (by decide) rfl (fun ls hl => ?_)
          have hl : lv_has ls 3 [(2, .int v3), (0, .ref (ad 10)), (1, .int x1)] := hl
          refine lv_goto hx hb d_States_isBuilt_41 (tgt := 2) rfl ?_
          exact ih x1 v3 σ H locs ls hf hw (lv_sub hl [1, 2, 0] rfl)
        · have hf := (if_neg hc).symm.trans hf
          refine lv_iconst (v := 0) hx hb d_States_isBuilt_36 (by decide) ?_
          exact zr_zret G hw hr hlocks (by decide) hf hQ d_States_isBuilt_37
  unfold zf_States_isBuilt at hf
  refine lv_iconst (v := 0) hx hb d_States_isBuilt_0 (by decide) ?_
  refine lv_istore_n hx hb d_States_isBuilt_1 rfl hl (by decide) rfl (fun ls hl => ?_)
  have hl : lv_has ls 3 [(2, .int 0), (0, .ref (ad 10)), (1, .int x1)] := hl
  exact K2 F x1 0 σ H locs ls hf hw (lv_sub hl [1, 2, 0] rfl)
/-! ScheduleCheck$States.findBuilt -/
def y_States_findBuilt : MethodName := ⟨"ScheduleCheck$States","findBuilt","(I)I"⟩
theorem d_States_findBuilt_0 : decode prog_9_method_12_code 0 = .ok (.aload_n 0, 1) := by decide +kernel
theorem d_States_findBuilt_1 : decode prog_9_method_12_code 1 = .ok (.getfield 34, 3) := by decide +kernel
theorem d_States_findBuilt_4 : decode prog_9_method_12_code 4 = .ok (.iload_n 1, 1) := by decide +kernel
theorem d_States_findBuilt_5 : decode prog_9_method_12_code 5 = .ok (.sipush 1023, 3) := by decide +kernel
theorem d_States_findBuilt_8 : decode prog_9_method_12_code 8 = .ok (.iand, 1) := by decide +kernel
theorem d_States_findBuilt_9 : decode prog_9_method_12_code 9 = .ok (.iaload, 1) := by decide +kernel
theorem d_States_findBuilt_10 : decode prog_9_method_12_code 10 = .ok (.istore_n 2, 1) := by decide +kernel
theorem d_States_findBuilt_11 : decode prog_9_method_12_code 11 = .ok (.iconst 0, 1) := by decide +kernel
theorem d_States_findBuilt_12 : decode prog_9_method_12_code 12 = .ok (.istore_n 3, 1) := by decide +kernel
theorem d_States_findBuilt_13 : decode prog_9_method_12_code 13 = .ok (.iload_n 3, 1) := by decide +kernel
theorem d_States_findBuilt_14 : decode prog_9_method_12_code 14 = .ok (.aload_n 0, 1) := by decide +kernel
theorem d_States_findBuilt_15 : decode prog_9_method_12_code 15 = .ok (.getfield 40, 3) := by decide +kernel
theorem d_States_findBuilt_18 : decode prog_9_method_12_code 18 = .ok (.if_icmp .ge 42, 3) := by decide +kernel
theorem d_States_findBuilt_21 : decode prog_9_method_12_code 21 = .ok (.iload_n 2, 1) := by decide +kernel
theorem d_States_findBuilt_22 : decode prog_9_method_12_code 22 = .ok (.bipush (-2), 2) := by decide +kernel
theorem d_States_findBuilt_24 : decode prog_9_method_12_code 24 = .ok (.if_icmp .eq 36, 3) := by decide +kernel
theorem d_States_findBuilt_27 : decode prog_9_method_12_code 27 = .ok (.aload_n 0, 1) := by decide +kernel
theorem d_States_findBuilt_28 : decode prog_9_method_12_code 28 = .ok (.getfield 31, 3) := by decide +kernel
theorem d_States_findBuilt_31 : decode prog_9_method_12_code 31 = .ok (.iload_n 2, 1) := by decide +kernel
theorem d_States_findBuilt_32 : decode prog_9_method_12_code 32 = .ok (.iaload, 1) := by decide +kernel
theorem d_States_findBuilt_33 : decode prog_9_method_12_code 33 = .ok (.iload_n 1, 1) := by decide +kernel
theorem d_States_findBuilt_34 : decode prog_9_method_12_code 34 = .ok (.if_icmp .ne 13, 3) := by decide +kernel
theorem d_States_findBuilt_37 : decode prog_9_method_12_code 37 = .ok (.aload_n 0, 1) := by decide +kernel
theorem d_States_findBuilt_38 : decode prog_9_method_12_code 38 = .ok (.iload_n 2, 1) := by decide +kernel
theorem d_States_findBuilt_39 : decode prog_9_method_12_code 39 = .ok (.invokevirtual 75, 3) := by decide +kernel
theorem d_States_findBuilt_42 : decode prog_9_method_12_code 42 = .ok (.ifCond .eq 5, 3) := by decide +kernel
theorem d_States_findBuilt_45 : decode prog_9_method_12_code 45 = .ok (.iload_n 2, 1) := by decide +kernel
theorem d_States_findBuilt_46 : decode prog_9_method_12_code 46 = .ok (.ireturn, 1) := by decide +kernel
theorem d_States_findBuilt_47 : decode prog_9_method_12_code 47 = .ok (.aload_n 0, 1) := by decide +kernel
theorem d_States_findBuilt_48 : decode prog_9_method_12_code 48 = .ok (.getfield 37, 3) := by decide +kernel
theorem d_States_findBuilt_51 : decode prog_9_method_12_code 51 = .ok (.iload_n 2, 1) := by decide +kernel
theorem d_States_findBuilt_52 : decode prog_9_method_12_code 52 = .ok (.iaload, 1) := by decide +kernel
theorem d_States_findBuilt_53 : decode prog_9_method_12_code 53 = .ok (.istore_n 2, 1) := by decide +kernel
theorem d_States_findBuilt_54 : decode prog_9_method_12_code 54 = .ok (.iinc 3 1, 3) := by decide +kernel
theorem d_States_findBuilt_57 : decode prog_9_method_12_code 57 = .ok (.goto (-44), 3) := by decide +kernel
theorem d_States_findBuilt_60 : decode prog_9_method_12_code 60 = .ok (.bipush (-2), 2) := by decide +kernel
theorem d_States_findBuilt_62 : decode prog_9_method_12_code 62 = .ok (.ireturn, 1) := by decide +kernel
def zf_States_findBuilt_60 (F : Nat)   (σ : zs_S) : Option (Int32 × zs_S) :=
  some ((-2), σ)
def zf_States_findBuilt_47 (F : Nat) (k13 : Int32 → Int32 → Int32 → zs_S → Option (Int32 × zs_S)) (x1 : Int32) (x2 : Int32) (x3 : Int32) (σ : zs_S) : Option (Int32 × zs_S) :=
  zq_g (zq_b x2 800) <|
  zq_v (zs_i σ 19 (x2).toNatClampNeg) fun v8 =>
  zq_v (x3 + 1) fun v9 =>
  k13 x1 v8 v9 σ
def zf_States_findBuilt_13 (F : Nat)  : Nat → Int32 → Int32 → Int32 → zs_S → Option (Int32 × zs_S)
  | 0, _, _, _, _ => none
  | n + 1, x1, x2, x3, σ =>
    if (zs_i σ 10 9) ≤ x3 then (
      zf_States_findBuilt_60 F σ
    ) else (
      if x2 = ((-2)) then (
        zf_States_findBuilt_60 F σ
      ) else (
        zq_g (zq_b x2 800) <|
        if (zs_i σ 17 (x2).toNatClampNeg) = x1 then (
          zq_c (zf_States_isBuilt F x2 σ) fun r5 σ4 =>
          if r5 = 0 then (
            zf_States_findBuilt_47 F (zf_States_findBuilt_13 F n) x1 x2 x3 σ4
          ) else (
            some (x2, σ4)
          )
        ) else (
          zf_States_findBuilt_47 F (zf_States_findBuilt_13 F n) x1 x2 x3 σ
        )
      )
    )
def zf_States_findBuilt (F : Nat) (x1 : Int32) (σ : zs_S) : Option (Int32 × zs_S) :=
  zq_g (zq_b (x1 &&& 1023) 1024) <|
  zq_v (zs_i σ 18 (x1 &&& 1023).toNatClampNeg) fun v2 =>
  zf_States_findBuilt_13 F F x1 v2 0 σ
set_option maxHeartbeats 4000000 in
set_option maxRecDepth 100000 in
theorem zc_States_findBuilt {l : Launch} {D : va_G} {cA : Nat → ClassId} {ad : Nat → Nat} {A : Nat → Prop} {F : Nat} {x1 : Int32} {σ : zs_S} {q : Int32 × zs_S} (hJ : zs_J ad) (hf : zf_States_findBuilt F x1 σ = some q) : Met l y_States_findBuilt (.code y_States_findBuilt prog_9_method_12_code 4 (some .int) :: zd_ww) { frames := 1, cells := 0, slots := 0, locals := 22 } (va_Pc [.ref (ad 10), .int x1] (zs_U 0 D cA ad A σ)) (zs_Qi 0 D cA ad A q) 0 0 A := by
  refine Met.ofW (cc := prog_9_method_12_code) (maxL := 4) (ret := (some .int)) (by decide) rfl ?_
  intro p e s m args below meth c s₁ B hml hv
  obtain ⟨hargs, hP, hK, hD, hZ⟩ := hv
  have G : zs_G 0 p s m args c prog_9_method_12_code 4 "ScheduleCheck$States" D cA ad A := ⟨⟨B.exec, B.bytes, hml, findClass_of_methodNamed B.named, fun w h => atoms_spec B.pre w (List.mem_cons_of_mem _ h)⟩, hK, hJ, hZ⟩
  have hw : zs_I 0 D cA ad A s σ s.heap [] := ⟨hP, hD, va_S.rf⟩
  have hx := G.1.1
  have hb := G.1.2.1
  have hown := G.1.2.2.2.1
  have hts := G.1.2.2.2.2
  have hr := B.returns
  have hlocks := B.notSynchronized
  have he : entryFrame m args 4 = F0 m 0 ((lg_sl [.ref (ad 10), .int x1] ++ List.replicate (4 - (lg_sl [.ref (ad 10), .int x1]).length) Slot.unset).toArray) [] := by rw [hargs]; exact lg_entry_eq m _ 4
  have hl := lv_entry [.ref (ad 10), .int x1] (n := 4) (Nat.le_of_ble_eq_true rfl)
  rw [he]
  generalize (lg_sl [.ref (ad 10), .int x1] ++ List.replicate (4 - (lg_sl [.ref (ad 10), .int x1]).length) Slot.unset).toArray = ls at hl
  have hl : lv_has ls 4 [(0, .ref (ad 10)), (1, .int x1)] := hl
  obtain ⟨RR, hR⟩ : ∃ z, z = (headSpec (.code y_States_findBuilt prog_9_method_12_code 4 (some .int) :: zd_ww) { frames := 1, cells := 0, slots := 0, locals := 22 }).room := ⟨_, rfl⟩
  rw [← hR]
  obtain ⟨QQ, hQ⟩ : ∃ z, z = MQ below (zs_Qi 0 D cA ad A q) args s 0 0 A := ⟨_, rfl⟩
  rw [← hQ]
  have hR1 : 1 ≤ RR.frames := by rw [hR]; exact Nat.le_refl _
  have hR2 : 22 ≤ RR.locals := by rw [hR]; exact Nat.le_refl _
  generalize s.heap = H at hw ⊢
  generalize ([] : List Loc) = locs at hw ⊢
  have K60 : ∀ (σ : zs_S) (H : Heap) (locs : List Loc) (ls : Array Slot), zf_States_findBuilt_60 F σ = some q → zs_I 0 D cA ad A s σ H locs → lv_has ls 4 [] → W p l e RR s m args below meth c H locs 0 0 QQ (F0 m 60 ls []) := by
    intro   σ H locs ls hf hw hl
    unfold zf_States_findBuilt_60 at hf
    refine lv_bipush (v := (-2)) hx hb d_States_findBuilt_60 (by decide) ?_
    exact zr_iret G hw hr hlocks hf hQ d_States_findBuilt_62
  have K47 : ∀ (k13 : Int32 → Int32 → Int32 → zs_S → Option (Int32 × zs_S)) (hk13 : ∀ (x1 : Int32) (x2 : Int32) (x3 : Int32) (σ : zs_S) (H : Heap) (locs : List Loc) (ls : Array Slot), k13 x1 x2 x3 σ = some q → zs_I 0 D cA ad A s σ H locs → lv_has ls 4 [(0, .ref (ad 10)), (1, .int x1), (2, .int x2), (3, .int x3)] → W p l e RR s m args below meth c H locs 0 0 QQ (F0 m 13 ls [])) (x1 : Int32) (x2 : Int32) (x3 : Int32) (σ : zs_S) (H : Heap) (locs : List Loc) (ls : Array Slot), zf_States_findBuilt_47 F k13 x1 x2 x3 σ = some q → zs_I 0 D cA ad A s σ H locs → lv_has ls 4 [(0, .ref (ad 10)), (1, .int x1), (2, .int x2), (3, .int x3)] → W p l e RR s m args below meth c H locs 0 0 QQ (F0 m 47 ls []) := by
    intro k13 hk13 x1 x2 x3 σ H locs ls hf hw hl
    unfold zf_States_findBuilt_47 at hf
    refine lv_aload_n hx hb d_States_findBuilt_47 rfl (lv_at hl 0 rfl) ?_
    refine zr_get (ci := 3) G hw 10 8 zi_3 rfl rfl rfl (by decide) zm_34 (fun _ h => h) (v := .ref (ad 19)) rfl d_States_findBuilt_48 ?_
    refine lv_iload_n hx hb d_States_findBuilt_51 rfl (lv_at hl 2 rfl) ?_
    obtain ⟨hi7, hf⟩ := zq_gs hf
    refine zr_iald G hw 19 rfl rfl hi7 d_States_findBuilt_52 ?_
    refine lv_topi (fun v8 e_v8 => ?_)
    have hf := zq_vs e_v8 hf
    refine lv_istore_n hx hb d_States_findBuilt_53 rfl hl (by decide) rfl (fun ls hl => ?_)
    have hl : lv_has ls 4 [(2, .int v8), (0, .ref (ad 10)), (1, .int x1), (3, .int x3)] := hl
    obtain ⟨v9, e_v9, hf⟩ := zq_ss hf
    refine lv_iinc (v := v9) hx hb d_States_findBuilt_54 hl (k := 3) rfl (zq_inc (k := 1) (by decide) e_v9) (by decide) rfl (fun ls hl => ?_)
    have hl : lv_has ls 4 [(3, .int v9), (2, .int v8), (0, .ref (ad 10)), (1, .int x1)] := hl
    refine lv_goto hx hb d_States_findBuilt_57 (tgt := 13) rfl ?_
    exact hk13 x1 v8 v9 σ H locs ls hf hw (lv_sub hl [2, 3, 1, 0] rfl)
  have K13 : ∀ (n : Nat) (x1 : Int32) (x2 : Int32) (x3 : Int32) (σ : zs_S) (H : Heap) (locs : List Loc) (ls : Array Slot), zf_States_findBuilt_13 F n x1 x2 x3 σ = some q → zs_I 0 D cA ad A s σ H locs → lv_has ls 4 [(0, .ref (ad 10)), (1, .int x1), (2, .int x2), (3, .int x3)] → W p l e RR s m args below meth c H locs 0 0 QQ (F0 m 13 ls []) := by
    intro  n
    induction n with
    | zero => intro x1 x2 x3 σ H locs ls hf hw hl; exact nomatch (show (none : Option (Int32 × zs_S)) = some q from hf)
    | succ n ih =>
      intro x1 x2 x3 σ H locs ls hf hw hl
      rw [zf_States_findBuilt_13] at hf
      refine lv_iload_n hx hb d_States_findBuilt_13 rfl (lv_at hl 3 rfl) ?_
      refine lv_aload_n hx hb d_States_findBuilt_14 rfl (lv_at hl 0 rfl) ?_
      refine zr_get (ci := 3) G hw 10 9 zi_3 rfl rfl rfl (by decide) zm_16 (fun _ h => h) (v := .int (zs_i σ 10 9)) rfl d_States_findBuilt_15 ?_
      refine lv_icmp_ge hx hb d_States_findBuilt_18 (tgt := 60) rfl (fun hc => ?_) (fun hc => ?_)
      · have hf := (if_pos hc).symm.trans hf
        exact K60 σ H locs ls hf hw (lv_sub hl [] rfl)
      · have hf := (if_neg hc).symm.trans hf
        refine lv_iload_n hx hb d_States_findBuilt_21 rfl (lv_at hl 2 rfl) ?_
        refine lv_bipush (v := (-2)) hx hb d_States_findBuilt_22 (by decide) ?_
        refine lv_icmp_eq hx hb d_States_findBuilt_24 (tgt := 60) rfl (fun hc => ?_) (fun hc => ?_)
        · have hf := (if_pos hc).symm.trans hf
          exact K60 σ H locs ls hf hw (lv_sub hl [] rfl)
        · have hf := (if_neg hc).symm.trans hf
          refine lv_aload_n hx hb d_States_findBuilt_27 rfl (lv_at hl 0 rfl) ?_
          refine zr_get (ci := 3) G hw 10 6 zi_3 rfl rfl rfl (by decide) zm_33 (fun _ h => h) (v := .ref (ad 17)) rfl d_States_findBuilt_28 ?_
          refine lv_iload_n hx hb d_States_findBuilt_31 rfl (lv_at hl 2 rfl) ?_
          obtain ⟨hi3, hf⟩ := zq_gs hf
          refine zr_iald G hw 17 rfl rfl hi3 d_States_findBuilt_32 ?_
          refine lv_iload_n hx hb d_States_findBuilt_33 rfl (lv_at hl 1 rfl) ?_
          refine lv_icmp_ne hx hb d_States_findBuilt_34 (tgt := 47) rfl (fun hc => ?_) (fun hc => ?_)
          · have hf := (if_neg hc).symm.trans hf
            exact K47 (zf_States_findBuilt_13 F n) ih x1 x2 x3 σ H locs ls hf hw (lv_sub hl [0, 1, 2, 3] rfl)
          · have hf := (if_pos hc).symm.trans hf
            refine lv_aload_n hx hb d_States_findBuilt_37 rfl (lv_at hl 0 rfl) ?_
            refine lv_iload_n hx hb d_States_findBuilt_38 rfl (lv_at hl 2 rfl) ?_
            obtain ⟨r5, σ4, hc6, hf⟩ := zq_cs hf
            refine zr_ci hw (zr_runV (rest := []) (ci := 3) (o := 10) G hw [.int x2] (zc_States_isBuilt hJ hc6) (cwV 1 hts (zs_gV zm_36 zm_37 zm_38 zm_39 zm_35) rfl rfl rfl (by decide +kernel) ⟨Nat.le_trans (by decide) hR1, Nat.le_trans (by decide) hR2⟩) rfl rfl rfl hl.1 (Nat.le_of_ble_eq_true rfl) d_States_findBuilt_39 ⟨Nat.zero_le _, Nat.zero_le _⟩) (fun H locs hw => ?_)
            refine lv_if_eq hx hb d_States_findBuilt_42 (tgt := 47) rfl (fun hc => ?_) (fun hc => ?_)
            · have hf := (if_pos hc).symm.trans hf
              exact K47 (zf_States_findBuilt_13 F n) ih x1 x2 x3 σ4 H locs ls hf hw (lv_sub hl [0, 1, 2, 3] rfl)
            · have hf := (if_neg hc).symm.trans hf
              refine lv_iload_n hx hb d_States_findBuilt_45 rfl (lv_at hl 2 rfl) ?_
              exact zr_iret G hw hr hlocks hf hQ d_States_findBuilt_46
  unfold zf_States_findBuilt at hf
  refine lv_aload_n hx hb d_States_findBuilt_0 rfl (lv_at hl 0 rfl) ?_
  refine zr_get (ci := 3) G hw 10 7 zi_3 rfl rfl rfl (by decide) zm_19 (fun _ h => h) (v := .ref (ad 18)) rfl d_States_findBuilt_1 ?_
  refine lv_iload_n hx hb d_States_findBuilt_4 rfl (lv_at hl 1 rfl) ?_
  refine lv_sipush (v := 1023) hx hb d_States_findBuilt_5 (by decide) ?_
  refine lv_iand hx hb d_States_findBuilt_8 ?_
  obtain ⟨hi1, hf⟩ := zq_gs hf
  refine zr_iald G hw 18 rfl rfl hi1 d_States_findBuilt_9 ?_
  refine lv_topi (fun v2 e_v2 => ?_)
  have hf := zq_vs e_v2 hf
  refine lv_istore_n hx hb d_States_findBuilt_10 rfl hl (by decide) rfl (fun ls hl => ?_)
  have hl : lv_has ls 4 [(2, .int v2), (0, .ref (ad 10)), (1, .int x1)] := hl
  refine lv_iconst (v := 0) hx hb d_States_findBuilt_11 (by decide) ?_
  refine lv_istore_n hx hb d_States_findBuilt_12 rfl hl (by decide) rfl (fun ls hl => ?_)
  have hl : lv_has ls 4 [(3, .int 0), (2, .int v2), (0, .ref (ad 10)), (1, .int x1)] := hl
  exact K13 F x1 v2 0 σ H locs ls hf hw (lv_sub hl [2, 3, 1, 0] rfl)
/-! ScheduleCheck$States.keep -/
def y_States_keep : MethodName := ⟨"ScheduleCheck$States","keep","(II)V"⟩
theorem d_States_keep_0 : decode prog_9_method_9_code 0 = .ok (.aload_n 0, 1) := by decide +kernel
theorem d_States_keep_1 : decode prog_9_method_9_code 1 = .ok (.invokevirtual 63, 3) := by decide +kernel
theorem d_States_keep_4 : decode prog_9_method_9_code 4 = .ok (.istore_n 3, 1) := by decide +kernel
theorem d_States_keep_5 : decode prog_9_method_9_code 5 = .ok (.aload_n 0, 1) := by decide +kernel
theorem d_States_keep_6 : decode prog_9_method_9_code 6 = .ok (.iload_n 3, 1) := by decide +kernel
theorem d_States_keep_7 : decode prog_9_method_9_code 7 = .ok (.invokevirtual 67, 3) := by decide +kernel
theorem d_States_keep_10 : decode prog_9_method_9_code 10 = .ok (.istore 4, 2) := by decide +kernel
theorem d_States_keep_12 : decode prog_9_method_9_code 12 = .ok (.iload 4, 2) := by decide +kernel
theorem d_States_keep_14 : decode prog_9_method_9_code 14 = .ok (.bipush (-2), 2) := by decide +kernel
theorem d_States_keep_16 : decode prog_9_method_9_code 16 = .ok (.if_icmp .ne 19, 3) := by decide +kernel
theorem d_States_keep_19 : decode prog_9_method_9_code 19 = .ok (.aload_n 0, 1) := by decide +kernel
theorem d_States_keep_20 : decode prog_9_method_9_code 20 = .ok (.getfield 40, 3) := by decide +kernel
theorem d_States_keep_23 : decode prog_9_method_9_code 23 = .ok (.sipush 800, 3) := by decide +kernel
theorem d_States_keep_26 : decode prog_9_method_9_code 26 = .ok (.if_icmp .ne 9, 3) := by decide +kernel
theorem d_States_keep_29 : decode prog_9_method_9_code 29 = .ok (.aload_n 0, 1) := by decide +kernel
theorem d_States_keep_30 : decode prog_9_method_9_code 30 = .ok (.iconst 1, 1) := by decide +kernel
theorem d_States_keep_31 : decode prog_9_method_9_code 31 = .ok (.putfield 47, 3) := by decide +kernel
theorem d_States_keep_34 : decode prog_9_method_9_code 34 = .ok (.return_, 1) := by decide +kernel
theorem d_States_keep_35 : decode prog_9_method_9_code 35 = .ok (.iload 4, 2) := by decide +kernel
theorem d_States_keep_37 : decode prog_9_method_9_code 37 = .ok (.bipush (-2), 2) := by decide +kernel
theorem d_States_keep_39 : decode prog_9_method_9_code 39 = .ok (.if_icmp .ne 16, 3) := by decide +kernel
theorem d_States_keep_42 : decode prog_9_method_9_code 42 = .ok (.aload_n 0, 1) := by decide +kernel
theorem d_States_keep_43 : decode prog_9_method_9_code 43 = .ok (.getfield 40, 3) := by decide +kernel
theorem d_States_keep_46 : decode prog_9_method_9_code 46 = .ok (.istore 4, 2) := by decide +kernel
theorem d_States_keep_48 : decode prog_9_method_9_code 48 = .ok (.aload_n 0, 1) := by decide +kernel
theorem d_States_keep_49 : decode prog_9_method_9_code 49 = .ok (.iload_n 3, 1) := by decide +kernel
theorem d_States_keep_50 : decode prog_9_method_9_code 50 = .ok (.iload_n 1, 1) := by decide +kernel
theorem d_States_keep_51 : decode prog_9_method_9_code 51 = .ok (.iload_n 2, 1) := by decide +kernel
theorem d_States_keep_52 : decode prog_9_method_9_code 52 = .ok (.invokevirtual 71, 3) := by decide +kernel
theorem d_States_keep_55 : decode prog_9_method_9_code 55 = .ok (.iload_n 1, 1) := by decide +kernel
theorem d_States_keep_56 : decode prog_9_method_9_code 56 = .ok (.iconst (-1), 1) := by decide +kernel
theorem d_States_keep_57 : decode prog_9_method_9_code 57 = .ok (.if_icmp .eq 48, 3) := by decide +kernel
theorem d_States_keep_60 : decode prog_9_method_9_code 60 = .ok (.aload_n 0, 1) := by decide +kernel
theorem d_States_keep_61 : decode prog_9_method_9_code 61 = .ok (.getfield 44, 3) := by decide +kernel
theorem d_States_keep_64 : decode prog_9_method_9_code 64 = .ok (.aload_n 0, 1) := by decide +kernel
theorem d_States_keep_65 : decode prog_9_method_9_code 65 = .ok (.getfield 25, 3) := by decide +kernel
theorem d_States_keep_68 : decode prog_9_method_9_code 68 = .ok (.arraylength, 1) := by decide +kernel
theorem d_States_keep_69 : decode prog_9_method_9_code 69 = .ok (.if_icmp .ge 36, 3) := by decide +kernel
theorem d_States_keep_72 : decode prog_9_method_9_code 72 = .ok (.aload_n 0, 1) := by decide +kernel
theorem d_States_keep_73 : decode prog_9_method_9_code 73 = .ok (.getfield 25, 3) := by decide +kernel
theorem d_States_keep_76 : decode prog_9_method_9_code 76 = .ok (.aload_n 0, 1) := by decide +kernel
theorem d_States_keep_77 : decode prog_9_method_9_code 77 = .ok (.getfield 44, 3) := by decide +kernel
theorem d_States_keep_80 : decode prog_9_method_9_code 80 = .ok (.iload 4, 2) := by decide +kernel
theorem d_States_keep_82 : decode prog_9_method_9_code 82 = .ok (.iastore, 1) := by decide +kernel
theorem d_States_keep_83 : decode prog_9_method_9_code 83 = .ok (.aload_n 0, 1) := by decide +kernel
theorem d_States_keep_84 : decode prog_9_method_9_code 84 = .ok (.dup, 1) := by decide +kernel
theorem d_States_keep_85 : decode prog_9_method_9_code 85 = .ok (.getfield 44, 3) := by decide +kernel
theorem d_States_keep_88 : decode prog_9_method_9_code 88 = .ok (.iconst 1, 1) := by decide +kernel
theorem d_States_keep_89 : decode prog_9_method_9_code 89 = .ok (.iadd, 1) := by decide +kernel
theorem d_States_keep_90 : decode prog_9_method_9_code 90 = .ok (.putfield 44, 3) := by decide +kernel
theorem d_States_keep_93 : decode prog_9_method_9_code 93 = .ok (.aload_n 0, 1) := by decide +kernel
theorem d_States_keep_94 : decode prog_9_method_9_code 94 = .ok (.getfield 28, 3) := by decide +kernel
theorem d_States_keep_97 : decode prog_9_method_9_code 97 = .ok (.iload_n 1, 1) := by decide +kernel
theorem d_States_keep_98 : decode prog_9_method_9_code 98 = .ok (.iconst 1, 1) := by decide +kernel
theorem d_States_keep_99 : decode prog_9_method_9_code 99 = .ok (.iadd, 1) := by decide +kernel
theorem d_States_keep_100 : decode prog_9_method_9_code 100 = .ok (.aload_n 0, 1) := by decide +kernel
theorem d_States_keep_101 : decode prog_9_method_9_code 101 = .ok (.getfield 44, 3) := by decide +kernel
theorem d_States_keep_104 : decode prog_9_method_9_code 104 = .ok (.iastore, 1) := by decide +kernel
theorem d_States_keep_105 : decode prog_9_method_9_code 105 = .ok (.return_, 1) := by decide +kernel
def zf_States_keep_105 (F : Nat)   (σ : zs_S) : Option (zs_S) :=
  some σ
def zf_States_keep_55 (F : Nat)  (x1 : Int32) (x4 : Int32) (σ : zs_S) : Option (zs_S) :=
  if x1 = ((-1)) then (
    zf_States_keep_105 F σ
  ) else (
    if (nI 3200) ≤ (zs_i σ 10 10) then (
      zf_States_keep_105 F σ
    ) else (
      zq_g (zq_b (zs_i σ 10 10) 3200) <|
      zq_v (zs_wi σ 15 ((zs_i σ 10 10).toNatClampNeg) x4) fun σ13 =>
      zq_v (zs_wi σ13 10 10 ((zs_i σ13 10 10) + 1)) fun σ14 =>
      zq_g (zq_b (x1 + 1) 801) <|
      zq_v (zs_wi σ14 16 ((x1 + 1).toNatClampNeg) (zs_i σ14 10 10)) fun σ16 =>
      zf_States_keep_105 F σ16
    )
  )
def zf_States_keep_35 (F : Nat)  (x1 : Int32) (x2 : Int32) (x3 : Int32) (x4 : Int32) (σ : zs_S) : Option (zs_S) :=
  if x4 = ((-2)) then (
    zq_v (zs_i σ 10 9) fun v8 =>
    zq_d (zf_States_addBuilt F x3 x1 x2 σ) fun σ9 =>
    zf_States_keep_55 F x1 v8 σ9
  ) else (
    zf_States_keep_55 F x1 x4 σ
  )
def zf_States_keep (F : Nat) (x1 : Int32) (x2 : Int32) (σ : zs_S) : Option (zs_S) :=
  zq_c (zf_States_hashBuilt F σ) fun r2 σ1 =>
  zq_c (zf_States_findBuilt F r2 σ1) fun r5 σ4 =>
  if r5 = ((-2)) then (
    if (zs_i σ4 10 9) = 800 then (
      zq_v (zs_wi σ4 10 11 1) fun σ7 =>
      some σ7
    ) else (
      zf_States_keep_35 F x1 x2 r2 r5 σ4
    )
  ) else (
    zf_States_keep_35 F x1 x2 r2 r5 σ4
  )
set_option maxHeartbeats 4000000 in
set_option maxRecDepth 100000 in
theorem zc_States_keep {l : Launch} {D : va_G} {cA : Nat → ClassId} {ad : Nat → Nat} {A : Nat → Prop} {F : Nat} {x1 : Int32} {x2 : Int32} {σ : zs_S} {q : zs_S} (hJ : zs_J ad) (hf : zf_States_keep F x1 x2 σ = some q) : Met l y_States_keep (.code y_States_keep prog_9_method_9_code 5 none :: zd_ww) { frames := 2, cells := 0, slots := 0, locals := 45 } (va_Pc [.ref (ad 10), .int x1, .int x2] (zs_U 0 D cA ad A σ)) (zs_Qv 0 D cA ad A q) 0 0 A := by
  refine Met.ofW (cc := prog_9_method_9_code) (maxL := 5) (ret := none) (by decide) rfl ?_
  intro p e s m args below meth c s₁ B hml hv
  obtain ⟨hargs, hP, hK, hD, hZ⟩ := hv
  have G : zs_G 0 p s m args c prog_9_method_9_code 5 "ScheduleCheck$States" D cA ad A := ⟨⟨B.exec, B.bytes, hml, findClass_of_methodNamed B.named, fun w h => atoms_spec B.pre w (List.mem_cons_of_mem _ h)⟩, hK, hJ, hZ⟩
  have hw : zs_I 0 D cA ad A s σ s.heap [] := ⟨hP, hD, va_S.rf⟩
  have hx := G.1.1
  have hb := G.1.2.1
  have hown := G.1.2.2.2.1
  have hts := G.1.2.2.2.2
  have hr := B.returns
  have hlocks := B.notSynchronized
  have he : entryFrame m args 5 = F0 m 0 ((lg_sl [.ref (ad 10), .int x1, .int x2] ++ List.replicate (5 - (lg_sl [.ref (ad 10), .int x1, .int x2]).length) Slot.unset).toArray) [] := by rw [hargs]; exact lg_entry_eq m _ 5
  have hl := lv_entry [.ref (ad 10), .int x1, .int x2] (n := 5) (Nat.le_of_ble_eq_true rfl)
  rw [he]
  generalize (lg_sl [.ref (ad 10), .int x1, .int x2] ++ List.replicate (5 - (lg_sl [.ref (ad 10), .int x1, .int x2]).length) Slot.unset).toArray = ls at hl
  have hl : lv_has ls 5 [(0, .ref (ad 10)), (1, .int x1), (2, .int x2)] := hl
  obtain ⟨RR, hR⟩ : ∃ z, z = (headSpec (.code y_States_keep prog_9_method_9_code 5 none :: zd_ww) { frames := 2, cells := 0, slots := 0, locals := 45 }).room := ⟨_, rfl⟩
  rw [← hR]
  obtain ⟨QQ, hQ⟩ : ∃ z, z = MQ below (zs_Qv 0 D cA ad A q) args s 0 0 A := ⟨_, rfl⟩
  rw [← hQ]
  have hR1 : 2 ≤ RR.frames := by rw [hR]; exact Nat.le_refl _
  have hR2 : 45 ≤ RR.locals := by rw [hR]; exact Nat.le_refl _
  generalize s.heap = H at hw ⊢
  generalize ([] : List Loc) = locs at hw ⊢
  have K105 : ∀ (σ : zs_S) (H : Heap) (locs : List Loc) (ls : Array Slot), zf_States_keep_105 F σ = some q → zs_I 0 D cA ad A s σ H locs → lv_has ls 5 [] → W p l e RR s m args below meth c H locs 0 0 QQ (F0 m 105 ls []) := by
    intro   σ H locs ls hf hw hl
    unfold zf_States_keep_105 at hf
    exact zr_vret G hw hr hlocks hf hQ d_States_keep_105
  have K55 : ∀ (x1 : Int32) (x4 : Int32) (σ : zs_S) (H : Heap) (locs : List Loc) (ls : Array Slot), zf_States_keep_55 F x1 x4 σ = some q → zs_I 0 D cA ad A s σ H locs → lv_has ls 5 [(0, .ref (ad 10)), (1, .int x1), (4, .int x4)] → W p l e RR s m args below meth c H locs 0 0 QQ (F0 m 55 ls []) := by
    intro  x1 x4 σ H locs ls hf hw hl
    unfold zf_States_keep_55 at hf
    refine lv_iload_n hx hb d_States_keep_55 rfl (lv_at hl 1 rfl) ?_
    refine lv_iconst (v := (-1)) hx hb d_States_keep_56 (by decide) ?_
    refine lv_icmp_eq hx hb d_States_keep_57 (tgt := 105) rfl (fun hc => ?_) (fun hc => ?_)
    · have hf := (if_pos hc).symm.trans hf
      exact K105 σ H locs ls hf hw (lv_sub hl [] rfl)
    · have hf := (if_neg hc).symm.trans hf
      refine lv_aload_n hx hb d_States_keep_60 rfl (lv_at hl 0 rfl) ?_
      refine zr_get (ci := 3) G hw 10 10 zi_3 rfl rfl rfl (by decide) zm_17 (fun _ h => h) (v := .int (zs_i σ 10 10)) rfl d_States_keep_61 ?_
      refine lv_aload_n hx hb d_States_keep_64 rfl (lv_at hl 0 rfl) ?_
      refine zr_get (ci := 3) G hw 10 4 zi_3 rfl rfl rfl (by decide) zm_52 (fun _ h => h) (v := .ref (ad 15)) rfl d_States_keep_65 ?_
      refine zr_alen G hw 15 rfl (by decide) rfl d_States_keep_68 ?_
      refine lv_icmp_ge hx hb d_States_keep_69 (tgt := 105) rfl (fun hc => ?_) (fun hc => ?_)
      · have hf := (if_pos hc).symm.trans hf
        exact K105 σ H locs ls hf hw (lv_sub hl [] rfl)
      · have hf := (if_neg hc).symm.trans hf
        refine lv_aload_n hx hb d_States_keep_72 rfl (lv_at hl 0 rfl) ?_
        refine zr_get (ci := 3) G hw 10 4 zi_3 rfl rfl rfl (by decide) zm_52 (fun _ h => h) (v := .ref (ad 15)) rfl d_States_keep_73 ?_
        refine lv_aload_n hx hb d_States_keep_76 rfl (lv_at hl 0 rfl) ?_
        refine zr_get (ci := 3) G hw 10 10 zi_3 rfl rfl rfl (by decide) zm_17 (fun _ h => h) (v := .int (zs_i σ 10 10)) rfl d_States_keep_77 ?_
        refine lv_iload hx hb d_States_keep_80 (lv_at hl 2 rfl) ?_
        obtain ⟨hi12, hf⟩ := zq_gs hf
        obtain ⟨σ13, e_σ13, hf⟩ := zq_ss hf
        refine zr_iast G hw 15 rfl rfl  hi12  d_States_keep_82 (fun H locs hw => ?_)
        rw [← e_σ13] at hw
        refine lv_aload_n hx hb d_States_keep_83 rfl (lv_at hl 0 rfl) ?_
        refine lv_dup hx hb d_States_keep_84 rfl ?_
        refine zr_get (ci := 3) G hw 10 10 zi_3 rfl rfl rfl (by decide) zm_17 (fun _ h => h) (v := .int (zs_i σ13 10 10)) rfl d_States_keep_85 ?_
        refine lv_iconst (v := 1) hx hb d_States_keep_88 (by decide) ?_
        refine lv_iadd hx hb d_States_keep_89 ?_
        obtain ⟨σ14, e_σ14, hf⟩ := zq_ss hf
        refine zr_puti (ci := 3) G hw 10 10 zi_3 t_zd3 t_zd3_ok n_zd3 rfl rfl rfl (by decide) rfl zm_17 (fun _ h => h) rfl (x := ((zs_i σ13 10 10) + 1)) (t_zd3_ok 10 (by decide)) rfl rfl d_States_keep_90 (fun H locs hw => ?_)
        rw [← e_σ14] at hw
        refine lv_aload_n hx hb d_States_keep_93 rfl (lv_at hl 0 rfl) ?_
        refine zr_get (ci := 3) G hw 10 5 zi_3 rfl rfl rfl (by decide) zm_29 (fun _ h => h) (v := .ref (ad 16)) rfl d_States_keep_94 ?_
        refine lv_iload_n hx hb d_States_keep_97 rfl (lv_at hl 1 rfl) ?_
        refine lv_iconst (v := 1) hx hb d_States_keep_98 (by decide) ?_
        refine lv_iadd hx hb d_States_keep_99 ?_
        refine lv_aload_n hx hb d_States_keep_100 rfl (lv_at hl 0 rfl) ?_
        refine zr_get (ci := 3) G hw 10 10 zi_3 rfl rfl rfl (by decide) zm_17 (fun _ h => h) (v := .int (zs_i σ14 10 10)) rfl d_States_keep_101 ?_
        obtain ⟨hi15, hf⟩ := zq_gs hf
        obtain ⟨σ16, e_σ16, hf⟩ := zq_ss hf
        refine zr_iast G hw 16 rfl rfl  hi15  d_States_keep_104 (fun H locs hw => ?_)
        rw [← e_σ16] at hw
        exact K105 σ16 H locs ls hf hw (lv_sub hl [] rfl)
  have K35 : ∀ (x1 : Int32) (x2 : Int32) (x3 : Int32) (x4 : Int32) (σ : zs_S) (H : Heap) (locs : List Loc) (ls : Array Slot), zf_States_keep_35 F x1 x2 x3 x4 σ = some q → zs_I 0 D cA ad A s σ H locs → lv_has ls 5 [(0, .ref (ad 10)), (1, .int x1), (2, .int x2), (3, .int x3), (4, .int x4)] → W p l e RR s m args below meth c H locs 0 0 QQ (F0 m 35 ls []) := by
    intro  x1 x2 x3 x4 σ H locs ls hf hw hl
    unfold zf_States_keep_35 at hf
    refine lv_iload hx hb d_States_keep_35 (lv_at hl 4 rfl) ?_
    refine lv_bipush (v := (-2)) hx hb d_States_keep_37 (by decide) ?_
    refine lv_icmp_ne hx hb d_States_keep_39 (tgt := 55) rfl (fun hc => ?_) (fun hc => ?_)
    · have hf := (if_neg hc).symm.trans hf
      exact K55 x1 x4 σ H locs ls hf hw (lv_sub hl [0, 1, 4] rfl)
    · have hf := (if_pos hc).symm.trans hf
      refine lv_aload_n hx hb d_States_keep_42 rfl (lv_at hl 0 rfl) ?_
      refine zr_get (ci := 3) G hw 10 9 zi_3 rfl rfl rfl (by decide) zm_16 (fun _ h => h) (v := .int (zs_i σ 10 9)) rfl d_States_keep_43 ?_
      refine lv_topi (fun v8 e_v8 => ?_)
      have hf := zq_vs e_v8 hf
      refine lv_istore hx hb d_States_keep_46 hl (by decide) rfl (fun ls hl => ?_)
      have hl : lv_has ls 5 [(4, .int v8), (0, .ref (ad 10)), (1, .int x1), (2, .int x2), (3, .int x3)] := hl
      refine lv_aload_n hx hb d_States_keep_48 rfl (lv_at hl 1 rfl) ?_
      refine lv_iload_n hx hb d_States_keep_49 rfl (lv_at hl 4 rfl) ?_
      refine lv_iload_n hx hb d_States_keep_50 rfl (lv_at hl 2 rfl) ?_
      refine lv_iload_n hx hb d_States_keep_51 rfl (lv_at hl 3 rfl) ?_
      obtain ⟨σ9, hc11, hf⟩ := zq_ds hf
      refine zr_cv hw (zr_runV (rest := []) (ci := 3) (o := 10) G hw [.int x3, .int x1, .int x2] (zc_States_addBuilt hJ hc11) (cwV 3 hts (zs_gV zm_49 zm_50 zm_51 zm_39 zm_48) rfl rfl rfl (by decide +kernel) ⟨Nat.le_trans (by decide) hR1, Nat.le_trans (by decide) hR2⟩) rfl rfl rfl hl.1 (Nat.le_of_ble_eq_true rfl) d_States_keep_52 ⟨Nat.zero_le _, Nat.zero_le _⟩) (fun H locs hw => ?_)
      exact K55 x1 v8 σ9 H locs ls hf hw (lv_sub hl [1, 2, 0] rfl)
  unfold zf_States_keep at hf
  refine lv_aload_n hx hb d_States_keep_0 rfl (lv_at hl 0 rfl) ?_
  obtain ⟨r2, σ1, hc3, hf⟩ := zq_cs hf
  refine zr_ci hw (zr_runV (rest := []) (ci := 3) (o := 10) G hw [] (zc_States_hashBuilt hJ hc3) (cwV 0 hts (zs_gV zm_41 zm_42 zm_43 zm_39 zm_40) rfl rfl rfl (by decide +kernel) ⟨Nat.le_trans (by decide) hR1, Nat.le_trans (by decide) hR2⟩) rfl rfl rfl hl.1 (Nat.le_of_ble_eq_true rfl) d_States_keep_1 ⟨Nat.zero_le _, Nat.zero_le _⟩) (fun H locs hw => ?_)
  refine lv_istore_n hx hb d_States_keep_4 rfl hl (by decide) rfl (fun ls hl => ?_)
  have hl : lv_has ls 5 [(3, .int r2), (0, .ref (ad 10)), (1, .int x1), (2, .int x2)] := hl
  refine lv_aload_n hx hb d_States_keep_5 rfl (lv_at hl 1 rfl) ?_
  refine lv_iload_n hx hb d_States_keep_6 rfl (lv_at hl 0 rfl) ?_
  obtain ⟨r5, σ4, hc6, hf⟩ := zq_cs hf
  refine zr_ci hw (zr_runV (rest := []) (ci := 3) (o := 10) G hw [.int r2] (zc_States_findBuilt hJ hc6) (cwV 1 hts (zs_gV zm_45 zm_46 zm_47 zm_39 zm_44) rfl rfl rfl (by decide +kernel) ⟨Nat.le_trans (by decide) hR1, Nat.le_trans (by decide) hR2⟩) rfl rfl rfl hl.1 (Nat.le_of_ble_eq_true rfl) d_States_keep_7 ⟨Nat.zero_le _, Nat.zero_le _⟩) (fun H locs hw => ?_)
  refine lv_istore hx hb d_States_keep_10 hl (by decide) rfl (fun ls hl => ?_)
  have hl : lv_has ls 5 [(4, .int r5), (3, .int r2), (0, .ref (ad 10)), (1, .int x1), (2, .int x2)] := hl
  refine lv_iload hx hb d_States_keep_12 (lv_at hl 0 rfl) ?_
  refine lv_bipush (v := (-2)) hx hb d_States_keep_14 (by decide) ?_
  refine lv_icmp_ne hx hb d_States_keep_16 (tgt := 35) rfl (fun hc => ?_) (fun hc => ?_)
  · have hf := (if_neg hc).symm.trans hf
    exact K35 x1 x2 r2 r5 σ4 H locs ls hf hw (lv_sub hl [2, 3, 4, 1, 0] rfl)
  · have hf := (if_pos hc).symm.trans hf
    refine lv_aload_n hx hb d_States_keep_19 rfl (lv_at hl 2 rfl) ?_
    refine zr_get (ci := 3) G hw 10 9 zi_3 rfl rfl rfl (by decide) zm_16 (fun _ h => h) (v := .int (zs_i σ4 10 9)) rfl d_States_keep_20 ?_
    refine lv_sipush (v := 800) hx hb d_States_keep_23 (by decide) ?_
    refine lv_icmp_ne hx hb d_States_keep_26 (tgt := 35) rfl (fun hc => ?_) (fun hc => ?_)
    · have hf := (if_neg hc).symm.trans hf
      exact K35 x1 x2 r2 r5 σ4 H locs ls hf hw (lv_sub hl [2, 3, 4, 1, 0] rfl)
    · have hf := (if_pos hc).symm.trans hf
      refine lv_aload_n hx hb d_States_keep_29 rfl (lv_at hl 2 rfl) ?_
      refine lv_iconst (v := 1) hx hb d_States_keep_30 (by decide) ?_
      obtain ⟨σ7, e_σ7, hf⟩ := zq_ss hf
      refine zr_puti (ci := 3) G hw 10 11 zi_3 t_zd3 t_zd3_ok n_zd3 rfl rfl rfl (by decide) rfl zm_18 (fun _ h => h) rfl (x := 1) (t_zd3_ok 11 (by decide)) (by decide) rfl d_States_keep_31 (fun H locs hw => ?_)
      rw [← e_σ7] at hw
      exact zr_vret G hw hr hlocks hf hQ d_States_keep_34
/-! ScheduleCheck$States.isFirstTo -/
def y_States_isFirstTo : MethodName := ⟨"ScheduleCheck$States","isFirstTo","(II)Z"⟩
theorem d_States_isFirstTo_0 : decode prog_9_method_15_code 0 = .ok (.iload_n 2, 1) := by decide +kernel
theorem d_States_isFirstTo_1 : decode prog_9_method_15_code 1 = .ok (.istore_n 3, 1) := by decide +kernel
theorem d_States_isFirstTo_2 : decode prog_9_method_15_code 2 = .ok (.iload_n 3, 1) := by decide +kernel
theorem d_States_isFirstTo_3 : decode prog_9_method_15_code 3 = .ok (.iload_n 1, 1) := by decide +kernel
theorem d_States_isFirstTo_4 : decode prog_9_method_15_code 4 = .ok (.if_icmp .ge 26, 3) := by decide +kernel
theorem d_States_isFirstTo_7 : decode prog_9_method_15_code 7 = .ok (.aload_n 0, 1) := by decide +kernel
theorem d_States_isFirstTo_8 : decode prog_9_method_15_code 8 = .ok (.getfield 25, 3) := by decide +kernel
theorem d_States_isFirstTo_11 : decode prog_9_method_15_code 11 = .ok (.iload_n 3, 1) := by decide +kernel
theorem d_States_isFirstTo_12 : decode prog_9_method_15_code 12 = .ok (.iaload, 1) := by decide +kernel
theorem d_States_isFirstTo_13 : decode prog_9_method_15_code 13 = .ok (.aload_n 0, 1) := by decide +kernel
theorem d_States_isFirstTo_14 : decode prog_9_method_15_code 14 = .ok (.getfield 25, 3) := by decide +kernel
theorem d_States_isFirstTo_17 : decode prog_9_method_15_code 17 = .ok (.iload_n 1, 1) := by decide +kernel
theorem d_States_isFirstTo_18 : decode prog_9_method_15_code 18 = .ok (.iaload, 1) := by decide +kernel
theorem d_States_isFirstTo_19 : decode prog_9_method_15_code 19 = .ok (.if_icmp .ne 5, 3) := by decide +kernel
theorem d_States_isFirstTo_22 : decode prog_9_method_15_code 22 = .ok (.iconst 0, 1) := by decide +kernel
theorem d_States_isFirstTo_23 : decode prog_9_method_15_code 23 = .ok (.ireturn, 1) := by decide +kernel
theorem d_States_isFirstTo_24 : decode prog_9_method_15_code 24 = .ok (.iinc 3 1, 3) := by decide +kernel
theorem d_States_isFirstTo_27 : decode prog_9_method_15_code 27 = .ok (.goto (-25), 3) := by decide +kernel
theorem d_States_isFirstTo_30 : decode prog_9_method_15_code 30 = .ok (.iconst 1, 1) := by decide +kernel
theorem d_States_isFirstTo_31 : decode prog_9_method_15_code 31 = .ok (.ireturn, 1) := by decide +kernel
def zf_States_isFirstTo_2 (F : Nat)  : Nat → Int32 → Int32 → zs_S → Option (Int32 × zs_S)
  | 0, _, _, _ => none
  | n + 1, x1, x3, σ =>
    if x1 ≤ x3 then (
      some (1, σ)
    ) else (
      zq_g (zq_b x3 3200) <|
      zq_g (zq_b x1 3200) <|
      if (zs_i σ 15 (x3).toNatClampNeg) = (zs_i σ 15 (x1).toNatClampNeg) then (
        some (0, σ)
      ) else (
        zq_v (x3 + 1) fun v3 =>
        (zf_States_isFirstTo_2 F n) x1 v3 σ
      )
    )
def zf_States_isFirstTo (F : Nat) (x1 : Int32) (x2 : Int32) (σ : zs_S) : Option (Int32 × zs_S) :=
  zf_States_isFirstTo_2 F F x1 x2 σ
set_option maxHeartbeats 4000000 in
set_option maxRecDepth 100000 in
theorem zc_States_isFirstTo {l : Launch} {D : va_G} {cA : Nat → ClassId} {ad : Nat → Nat} {A : Nat → Prop} {F : Nat} {x1 : Int32} {x2 : Int32} {σ : zs_S} {q : Int32 × zs_S} (hJ : zs_J ad) (hf : zf_States_isFirstTo F x1 x2 σ = some q) : Met l y_States_isFirstTo (.code y_States_isFirstTo prog_9_method_15_code 4 (some .boolean) :: zd_ww) { frames := 0, cells := 0, slots := 0, locals := 0 } (va_Pc [.ref (ad 10), .int x1, .int x2] (zs_U 0 D cA ad A σ)) (zs_Qi 0 D cA ad A q) 0 0 A := by
  refine Met.ofW (cc := prog_9_method_15_code) (maxL := 4) (ret := (some .boolean)) (by decide) rfl ?_
  intro p e s m args below meth c s₁ B hml hv
  obtain ⟨hargs, hP, hK, hD, hZ⟩ := hv
  have G : zs_G 0 p s m args c prog_9_method_15_code 4 "ScheduleCheck$States" D cA ad A := ⟨⟨B.exec, B.bytes, hml, findClass_of_methodNamed B.named, fun w h => atoms_spec B.pre w (List.mem_cons_of_mem _ h)⟩, hK, hJ, hZ⟩
  have hw : zs_I 0 D cA ad A s σ s.heap [] := ⟨hP, hD, va_S.rf⟩
  have hx := G.1.1
  have hb := G.1.2.1
  have hown := G.1.2.2.2.1
  have hts := G.1.2.2.2.2
  have hr := B.returns
  have hlocks := B.notSynchronized
  have he : entryFrame m args 4 = F0 m 0 ((lg_sl [.ref (ad 10), .int x1, .int x2] ++ List.replicate (4 - (lg_sl [.ref (ad 10), .int x1, .int x2]).length) Slot.unset).toArray) [] := by rw [hargs]; exact lg_entry_eq m _ 4
  have hl := lv_entry [.ref (ad 10), .int x1, .int x2] (n := 4) (Nat.le_of_ble_eq_true rfl)
  rw [he]
  generalize (lg_sl [.ref (ad 10), .int x1, .int x2] ++ List.replicate (4 - (lg_sl [.ref (ad 10), .int x1, .int x2]).length) Slot.unset).toArray = ls at hl
  have hl : lv_has ls 4 [(0, .ref (ad 10)), (1, .int x1), (2, .int x2)] := hl
  obtain ⟨RR, hR⟩ : ∃ z, z = (headSpec (.code y_States_isFirstTo prog_9_method_15_code 4 (some .boolean) :: zd_ww) { frames := 0, cells := 0, slots := 0, locals := 0 }).room := ⟨_, rfl⟩
  rw [← hR]
  obtain ⟨QQ, hQ⟩ : ∃ z, z = MQ below (zs_Qi 0 D cA ad A q) args s 0 0 A := ⟨_, rfl⟩
  rw [← hQ]
  have hR1 : 0 ≤ RR.frames := by rw [hR]; exact Nat.le_refl _
  have hR2 : 0 ≤ RR.locals := by rw [hR]; exact Nat.le_refl _
  generalize s.heap = H at hw ⊢
  generalize ([] : List Loc) = locs at hw ⊢
  have K2 : ∀ (n : Nat) (x1 : Int32) (x3 : Int32) (σ : zs_S) (H : Heap) (locs : List Loc) (ls : Array Slot), zf_States_isFirstTo_2 F n x1 x3 σ = some q → zs_I 0 D cA ad A s σ H locs → lv_has ls 4 [(0, .ref (ad 10)), (1, .int x1), (3, .int x3)] → W p l e RR s m args below meth c H locs 0 0 QQ (F0 m 2 ls []) := by
    intro  n
    induction n with
    | zero => intro x1 x3 σ H locs ls hf hw hl; exact nomatch (show (none : Option (Int32 × zs_S)) = some q from hf)
    | succ n ih =>
      intro x1 x3 σ H locs ls hf hw hl
      rw [zf_States_isFirstTo_2] at hf
      refine lv_iload_n hx hb d_States_isFirstTo_2 rfl (lv_at hl 2 rfl) ?_
      refine lv_iload_n hx hb d_States_isFirstTo_3 rfl (lv_at hl 1 rfl) ?_
      refine lv_icmp_ge hx hb d_States_isFirstTo_4 (tgt := 30) rfl (fun hc => ?_) (fun hc => ?_)
      · have hf := (if_pos hc).symm.trans hf
        refine lv_iconst (v := 1) hx hb d_States_isFirstTo_30 (by decide) ?_
        exact zr_zret G hw hr hlocks (by decide) hf hQ d_States_isFirstTo_31
      · have hf := (if_neg hc).symm.trans hf
        refine lv_aload_n hx hb d_States_isFirstTo_7 rfl (lv_at hl 0 rfl) ?_
        refine zr_get (ci := 3) G hw 10 4 zi_3 rfl rfl rfl (by decide) zm_52 (fun _ h => h) (v := .ref (ad 15)) rfl d_States_isFirstTo_8 ?_
        refine lv_iload_n hx hb d_States_isFirstTo_11 rfl (lv_at hl 2 rfl) ?_
        obtain ⟨hi1, hf⟩ := zq_gs hf
        refine zr_iald G hw 15 rfl rfl hi1 d_States_isFirstTo_12 ?_
        refine lv_aload_n hx hb d_States_isFirstTo_13 rfl (lv_at hl 0 rfl) ?_
        refine zr_get (ci := 3) G hw 10 4 zi_3 rfl rfl rfl (by decide) zm_52 (fun _ h => h) (v := .ref (ad 15)) rfl d_States_isFirstTo_14 ?_
        refine lv_iload_n hx hb d_States_isFirstTo_17 rfl (lv_at hl 1 rfl) ?_
        obtain ⟨hi2, hf⟩ := zq_gs hf
        refine zr_iald G hw 15 rfl rfl hi2 d_States_isFirstTo_18 ?_
        refine lv_icmp_ne hx hb d_States_isFirstTo_19 (tgt := 24) rfl (fun hc => ?_) (fun hc => ?_)
        · have hf := (if_neg hc).symm.trans hf
          obtain ⟨v3, e_v3, hf⟩ := zq_ss hf
          refine lv_iinc (v := v3) hx hb d_States_isFirstTo_24 hl (k := 2) rfl (zq_inc (k := 1) (by decide) e_v3) (by decide) rfl (fun ls hl => ?_)
          have hl : lv_has ls 4 [(3, .int v3), (0, .ref (ad 10)), (1, .int x1)] := hl
          refine lv_goto hx hb d_States_isFirstTo_27 (tgt := 2) rfl ?_
          exact ih x1 v3 σ H locs ls hf hw (lv_sub hl [1, 2, 0] rfl)
        · have hf := (if_pos hc).symm.trans hf
          refine lv_iconst (v := 0) hx hb d_States_isFirstTo_22 (by decide) ?_
          exact zr_zret G hw hr hlocks (by decide) hf hQ d_States_isFirstTo_23
  unfold zf_States_isFirstTo at hf
  refine lv_iload_n hx hb d_States_isFirstTo_0 rfl (lv_at hl 2 rfl) ?_
  refine lv_istore_n hx hb d_States_isFirstTo_1 rfl hl (by decide) rfl (fun ls hl => ?_)
  have hl : lv_has ls 4 [(3, .int x2), (0, .ref (ad 10)), (1, .int x1), (2, .int x2)] := hl
  exact K2 F x1 x2 σ H locs ls hf hw (lv_sub hl [1, 2, 0] rfl)
/-! ScheduleCheck$States.pairs -/
def y_States_pairs : MethodName := ⟨"ScheduleCheck$States","pairs","()I"⟩
theorem d_States_pairs_0 : decode prog_9_method_14_code 0 = .ok (.iconst 0, 1) := by decide +kernel
theorem d_States_pairs_1 : decode prog_9_method_14_code 1 = .ok (.istore_n 1, 1) := by decide +kernel
theorem d_States_pairs_2 : decode prog_9_method_14_code 2 = .ok (.iconst 0, 1) := by decide +kernel
theorem d_States_pairs_3 : decode prog_9_method_14_code 3 = .ok (.istore_n 2, 1) := by decide +kernel
theorem d_States_pairs_4 : decode prog_9_method_14_code 4 = .ok (.iload_n 2, 1) := by decide +kernel
theorem d_States_pairs_5 : decode prog_9_method_14_code 5 = .ok (.aload_n 0, 1) := by decide +kernel
theorem d_States_pairs_6 : decode prog_9_method_14_code 6 = .ok (.getfield 40, 3) := by decide +kernel
theorem d_States_pairs_9 : decode prog_9_method_14_code 9 = .ok (.if_icmp .ge 51, 3) := by decide +kernel
theorem d_States_pairs_12 : decode prog_9_method_14_code 12 = .ok (.aload_n 0, 1) := by decide +kernel
theorem d_States_pairs_13 : decode prog_9_method_14_code 13 = .ok (.getfield 28, 3) := by decide +kernel
theorem d_States_pairs_16 : decode prog_9_method_14_code 16 = .ok (.iload_n 2, 1) := by decide +kernel
theorem d_States_pairs_17 : decode prog_9_method_14_code 17 = .ok (.iaload, 1) := by decide +kernel
theorem d_States_pairs_18 : decode prog_9_method_14_code 18 = .ok (.istore_n 3, 1) := by decide +kernel
theorem d_States_pairs_19 : decode prog_9_method_14_code 19 = .ok (.iload_n 3, 1) := by decide +kernel
theorem d_States_pairs_20 : decode prog_9_method_14_code 20 = .ok (.aload_n 0, 1) := by decide +kernel
theorem d_States_pairs_21 : decode prog_9_method_14_code 21 = .ok (.getfield 28, 3) := by decide +kernel
theorem d_States_pairs_24 : decode prog_9_method_14_code 24 = .ok (.iload_n 2, 1) := by decide +kernel
theorem d_States_pairs_25 : decode prog_9_method_14_code 25 = .ok (.iconst 1, 1) := by decide +kernel
theorem d_States_pairs_26 : decode prog_9_method_14_code 26 = .ok (.iadd, 1) := by decide +kernel
theorem d_States_pairs_27 : decode prog_9_method_14_code 27 = .ok (.iaload, 1) := by decide +kernel
theorem d_States_pairs_28 : decode prog_9_method_14_code 28 = .ok (.if_icmp .ge 26, 3) := by decide +kernel
theorem d_States_pairs_31 : decode prog_9_method_14_code 31 = .ok (.aload_n 0, 1) := by decide +kernel
theorem d_States_pairs_32 : decode prog_9_method_14_code 32 = .ok (.iload_n 3, 1) := by decide +kernel
theorem d_States_pairs_33 : decode prog_9_method_14_code 33 = .ok (.aload_n 0, 1) := by decide +kernel
theorem d_States_pairs_34 : decode prog_9_method_14_code 34 = .ok (.getfield 28, 3) := by decide +kernel
theorem d_States_pairs_37 : decode prog_9_method_14_code 37 = .ok (.iload_n 2, 1) := by decide +kernel
theorem d_States_pairs_38 : decode prog_9_method_14_code 38 = .ok (.iaload, 1) := by decide +kernel
theorem d_States_pairs_39 : decode prog_9_method_14_code 39 = .ok (.invokevirtual 79, 3) := by decide +kernel
theorem d_States_pairs_42 : decode prog_9_method_14_code 42 = .ok (.ifCond .eq 6, 3) := by decide +kernel
theorem d_States_pairs_45 : decode prog_9_method_14_code 45 = .ok (.iinc 1 1, 3) := by decide +kernel
theorem d_States_pairs_48 : decode prog_9_method_14_code 48 = .ok (.iinc 3 1, 3) := by decide +kernel
theorem d_States_pairs_51 : decode prog_9_method_14_code 51 = .ok (.goto (-32), 3) := by decide +kernel
theorem d_States_pairs_54 : decode prog_9_method_14_code 54 = .ok (.iinc 2 1, 3) := by decide +kernel
theorem d_States_pairs_57 : decode prog_9_method_14_code 57 = .ok (.goto (-53), 3) := by decide +kernel
theorem d_States_pairs_60 : decode prog_9_method_14_code 60 = .ok (.iload_n 1, 1) := by decide +kernel
theorem d_States_pairs_61 : decode prog_9_method_14_code 61 = .ok (.ireturn, 1) := by decide +kernel
def zf_States_pairs_48 (F : Nat) (k4 : Int32 → Int32 → zs_S → Option (Int32 × zs_S)) (k19 : Int32 → Int32 → Int32 → zs_S → Option (Int32 × zs_S)) (x1 : Int32) (x2 : Int32) (x3 : Int32) (σ : zs_S) : Option (Int32 × zs_S) :=
  zq_v (x3 + 1) fun v10 =>
  k19 x1 x2 v10 σ
def zf_States_pairs_19 (F : Nat) (k4 : Int32 → Int32 → zs_S → Option (Int32 × zs_S)) : Nat → Int32 → Int32 → Int32 → zs_S → Option (Int32 × zs_S)
  | 0, _, _, _, _ => none
  | n + 1, x1, x2, x3, σ =>
    zq_g (zq_b (x2 + 1) 801) <|
    if (zs_i σ 16 (x2 + 1).toNatClampNeg) ≤ x3 then (
      zq_v (x2 + 1) fun v4 =>
      k4 x1 v4 σ
    ) else (
      zq_g (zq_b x2 801) <|
      zq_c (zf_States_isFirstTo F x3 (zs_i σ 16 (x2).toNatClampNeg) σ) fun r7 σ6 =>
      if r7 = 0 then (
        zf_States_pairs_48 F k4 (zf_States_pairs_19 F k4 n) x1 x2 x3 σ6
      ) else (
        zq_v (x1 + 1) fun v9 =>
        zf_States_pairs_48 F k4 (zf_States_pairs_19 F k4 n) v9 x2 x3 σ6
      )
    )
def zf_States_pairs_4 (F : Nat)  : Nat → Int32 → Int32 → zs_S → Option (Int32 × zs_S)
  | 0, _, _, _ => none
  | n + 1, x1, x2, σ =>
    if (zs_i σ 10 9) ≤ x2 then (
      some (x1, σ)
    ) else (
      zq_g (zq_b x2 801) <|
      zq_v (zs_i σ 16 (x2).toNatClampNeg) fun v2 =>
      zf_States_pairs_19 F (zf_States_pairs_4 F n) F x1 x2 v2 σ
    )
def zf_States_pairs (F : Nat)  (σ : zs_S) : Option (Int32 × zs_S) :=
  zf_States_pairs_4 F F 0 0 σ
set_option maxHeartbeats 4000000 in
set_option maxRecDepth 100000 in
theorem zc_States_pairs {l : Launch} {D : va_G} {cA : Nat → ClassId} {ad : Nat → Nat} {A : Nat → Prop} {F : Nat}  {σ : zs_S} {q : Int32 × zs_S} (hJ : zs_J ad) (hf : zf_States_pairs F  σ = some q) : Met l y_States_pairs (.code y_States_pairs prog_9_method_14_code 4 (some .int) :: zd_ww) { frames := 1, cells := 0, slots := 0, locals := 23 } (va_Pc [.ref (ad 10)] (zs_U 0 D cA ad A σ)) (zs_Qi 0 D cA ad A q) 0 0 A := by
  refine Met.ofW (cc := prog_9_method_14_code) (maxL := 4) (ret := (some .int)) (by decide) rfl ?_
  intro p e s m args below meth c s₁ B hml hv
  obtain ⟨hargs, hP, hK, hD, hZ⟩ := hv
  have G : zs_G 0 p s m args c prog_9_method_14_code 4 "ScheduleCheck$States" D cA ad A := ⟨⟨B.exec, B.bytes, hml, findClass_of_methodNamed B.named, fun w h => atoms_spec B.pre w (List.mem_cons_of_mem _ h)⟩, hK, hJ, hZ⟩
  have hw : zs_I 0 D cA ad A s σ s.heap [] := ⟨hP, hD, va_S.rf⟩
  have hx := G.1.1
  have hb := G.1.2.1
  have hown := G.1.2.2.2.1
  have hts := G.1.2.2.2.2
  have hr := B.returns
  have hlocks := B.notSynchronized
  have he : entryFrame m args 4 = F0 m 0 ((lg_sl [.ref (ad 10)] ++ List.replicate (4 - (lg_sl [.ref (ad 10)]).length) Slot.unset).toArray) [] := by rw [hargs]; exact lg_entry_eq m _ 4
  have hl := lv_entry [.ref (ad 10)] (n := 4) (Nat.le_of_ble_eq_true rfl)
  rw [he]
  generalize (lg_sl [.ref (ad 10)] ++ List.replicate (4 - (lg_sl [.ref (ad 10)]).length) Slot.unset).toArray = ls at hl
  have hl : lv_has ls 4 [(0, .ref (ad 10))] := hl
  obtain ⟨RR, hR⟩ : ∃ z, z = (headSpec (.code y_States_pairs prog_9_method_14_code 4 (some .int) :: zd_ww) { frames := 1, cells := 0, slots := 0, locals := 23 }).room := ⟨_, rfl⟩
  rw [← hR]
  obtain ⟨QQ, hQ⟩ : ∃ z, z = MQ below (zs_Qi 0 D cA ad A q) args s 0 0 A := ⟨_, rfl⟩
  rw [← hQ]
  have hR1 : 1 ≤ RR.frames := by rw [hR]; exact Nat.le_refl _
  have hR2 : 23 ≤ RR.locals := by rw [hR]; exact Nat.le_refl _
  generalize s.heap = H at hw ⊢
  generalize ([] : List Loc) = locs at hw ⊢
  have K48 : ∀ (k4 : Int32 → Int32 → zs_S → Option (Int32 × zs_S)) (hk4 : ∀ (x1 : Int32) (x2 : Int32) (σ : zs_S) (H : Heap) (locs : List Loc) (ls : Array Slot), k4 x1 x2 σ = some q → zs_I 0 D cA ad A s σ H locs → lv_has ls 4 [(0, .ref (ad 10)), (1, .int x1), (2, .int x2)] → W p l e RR s m args below meth c H locs 0 0 QQ (F0 m 4 ls [])) (k19 : Int32 → Int32 → Int32 → zs_S → Option (Int32 × zs_S)) (hk19 : ∀ (x1 : Int32) (x2 : Int32) (x3 : Int32) (σ : zs_S) (H : Heap) (locs : List Loc) (ls : Array Slot), k19 x1 x2 x3 σ = some q → zs_I 0 D cA ad A s σ H locs → lv_has ls 4 [(0, .ref (ad 10)), (1, .int x1), (2, .int x2), (3, .int x3)] → W p l e RR s m args below meth c H locs 0 0 QQ (F0 m 19 ls [])) (x1 : Int32) (x2 : Int32) (x3 : Int32) (σ : zs_S) (H : Heap) (locs : List Loc) (ls : Array Slot), zf_States_pairs_48 F k4 k19 x1 x2 x3 σ = some q → zs_I 0 D cA ad A s σ H locs → lv_has ls 4 [(0, .ref (ad 10)), (1, .int x1), (2, .int x2), (3, .int x3)] → W p l e RR s m args below meth c H locs 0 0 QQ (F0 m 48 ls []) := by
    intro k4 hk4 k19 hk19 x1 x2 x3 σ H locs ls hf hw hl
    unfold zf_States_pairs_48 at hf
    obtain ⟨v10, e_v10, hf⟩ := zq_ss hf
    refine lv_iinc (v := v10) hx hb d_States_pairs_48 hl (k := 3) rfl (zq_inc (k := 1) (by decide) e_v10) (by decide) rfl (fun ls hl => ?_)
    have hl : lv_has ls 4 [(3, .int v10), (0, .ref (ad 10)), (1, .int x1), (2, .int x2)] := hl
    refine lv_goto hx hb d_States_pairs_51 (tgt := 19) rfl ?_
    exact hk19 x1 x2 v10 σ H locs ls hf hw (lv_sub hl [1, 2, 3, 0] rfl)
  have K19 : ∀ (k4 : Int32 → Int32 → zs_S → Option (Int32 × zs_S)) (hk4 : ∀ (x1 : Int32) (x2 : Int32) (σ : zs_S) (H : Heap) (locs : List Loc) (ls : Array Slot), k4 x1 x2 σ = some q → zs_I 0 D cA ad A s σ H locs → lv_has ls 4 [(0, .ref (ad 10)), (1, .int x1), (2, .int x2)] → W p l e RR s m args below meth c H locs 0 0 QQ (F0 m 4 ls [])) (n : Nat) (x1 : Int32) (x2 : Int32) (x3 : Int32) (σ : zs_S) (H : Heap) (locs : List Loc) (ls : Array Slot), zf_States_pairs_19 F k4 n x1 x2 x3 σ = some q → zs_I 0 D cA ad A s σ H locs → lv_has ls 4 [(0, .ref (ad 10)), (1, .int x1), (2, .int x2), (3, .int x3)] → W p l e RR s m args below meth c H locs 0 0 QQ (F0 m 19 ls []) := by
    intro k4 hk4 n
    induction n with
    | zero => intro x1 x2 x3 σ H locs ls hf hw hl; exact nomatch (show (none : Option (Int32 × zs_S)) = some q from hf)
    | succ n ih =>
      intro x1 x2 x3 σ H locs ls hf hw hl
      rw [zf_States_pairs_19] at hf
      refine lv_iload_n hx hb d_States_pairs_19 rfl (lv_at hl 3 rfl) ?_
      refine lv_aload_n hx hb d_States_pairs_20 rfl (lv_at hl 0 rfl) ?_
      refine zr_get (ci := 3) G hw 10 5 zi_3 rfl rfl rfl (by decide) zm_29 (fun _ h => h) (v := .ref (ad 16)) rfl d_States_pairs_21 ?_
      refine lv_iload_n hx hb d_States_pairs_24 rfl (lv_at hl 2 rfl) ?_
      refine lv_iconst (v := 1) hx hb d_States_pairs_25 (by decide) ?_
      refine lv_iadd hx hb d_States_pairs_26 ?_
      obtain ⟨hi3, hf⟩ := zq_gs hf
      refine zr_iald G hw 16 rfl rfl hi3 d_States_pairs_27 ?_
      refine lv_icmp_ge hx hb d_States_pairs_28 (tgt := 54) rfl (fun hc => ?_) (fun hc => ?_)
      · have hf := (if_pos hc).symm.trans hf
        obtain ⟨v4, e_v4, hf⟩ := zq_ss hf
        refine lv_iinc (v := v4) hx hb d_States_pairs_54 hl (k := 2) rfl (zq_inc (k := 1) (by decide) e_v4) (by decide) rfl (fun ls hl => ?_)
        have hl : lv_has ls 4 [(2, .int v4), (0, .ref (ad 10)), (1, .int x1), (3, .int x3)] := hl
        refine lv_goto hx hb d_States_pairs_57 (tgt := 4) rfl ?_
        exact hk4 x1 v4 σ H locs ls hf hw (lv_sub hl [1, 2, 0] rfl)
      · have hf := (if_neg hc).symm.trans hf
        refine lv_aload_n hx hb d_States_pairs_31 rfl (lv_at hl 0 rfl) ?_
        refine lv_iload_n hx hb d_States_pairs_32 rfl (lv_at hl 3 rfl) ?_
        refine lv_aload_n hx hb d_States_pairs_33 rfl (lv_at hl 0 rfl) ?_
        refine zr_get (ci := 3) G hw 10 5 zi_3 rfl rfl rfl (by decide) zm_29 (fun _ h => h) (v := .ref (ad 16)) rfl d_States_pairs_34 ?_
        refine lv_iload_n hx hb d_States_pairs_37 rfl (lv_at hl 2 rfl) ?_
        obtain ⟨hi5, hf⟩ := zq_gs hf
        refine zr_iald G hw 16 rfl rfl hi5 d_States_pairs_38 ?_
        obtain ⟨r7, σ6, hc8, hf⟩ := zq_cs hf
        refine zr_ci hw (zr_runV (rest := []) (ci := 3) (o := 10) G hw [.int x3, .int (zs_i σ 16 (x2).toNatClampNeg)] (zc_States_isFirstTo hJ hc8) (cwV 2 hts (zs_gV zm_54 zm_55 zm_56 zm_39 zm_53) rfl rfl rfl (by decide +kernel) ⟨Nat.le_trans (by decide) hR1, Nat.le_trans (by decide) hR2⟩) rfl rfl rfl hl.1 (Nat.le_of_ble_eq_true rfl) d_States_pairs_39 ⟨Nat.zero_le _, Nat.zero_le _⟩) (fun H locs hw => ?_)
        refine lv_if_eq hx hb d_States_pairs_42 (tgt := 48) rfl (fun hc => ?_) (fun hc => ?_)
        · have hf := (if_pos hc).symm.trans hf
          exact K48 k4 hk4 (zf_States_pairs_19 F k4 n) ih x1 x2 x3 σ6 H locs ls hf hw (lv_sub hl [0, 1, 2, 3] rfl)
        · have hf := (if_neg hc).symm.trans hf
          obtain ⟨v9, e_v9, hf⟩ := zq_ss hf
          refine lv_iinc (v := v9) hx hb d_States_pairs_45 hl (k := 1) rfl (zq_inc (k := 1) (by decide) e_v9) (by decide) rfl (fun ls hl => ?_)
          have hl : lv_has ls 4 [(1, .int v9), (0, .ref (ad 10)), (2, .int x2), (3, .int x3)] := hl
          exact K48 k4 hk4 (zf_States_pairs_19 F k4 n) ih v9 x2 x3 σ6 H locs ls hf hw (lv_sub hl [1, 0, 2, 3] rfl)
  have K4 : ∀ (n : Nat) (x1 : Int32) (x2 : Int32) (σ : zs_S) (H : Heap) (locs : List Loc) (ls : Array Slot), zf_States_pairs_4 F n x1 x2 σ = some q → zs_I 0 D cA ad A s σ H locs → lv_has ls 4 [(0, .ref (ad 10)), (1, .int x1), (2, .int x2)] → W p l e RR s m args below meth c H locs 0 0 QQ (F0 m 4 ls []) := by
    intro  n
    induction n with
    | zero => intro x1 x2 σ H locs ls hf hw hl; exact nomatch (show (none : Option (Int32 × zs_S)) = some q from hf)
    | succ n ih =>
      intro x1 x2 σ H locs ls hf hw hl
      rw [zf_States_pairs_4] at hf
      refine lv_iload_n hx hb d_States_pairs_4 rfl (lv_at hl 2 rfl) ?_
      refine lv_aload_n hx hb d_States_pairs_5 rfl (lv_at hl 0 rfl) ?_
      refine zr_get (ci := 3) G hw 10 9 zi_3 rfl rfl rfl (by decide) zm_16 (fun _ h => h) (v := .int (zs_i σ 10 9)) rfl d_States_pairs_6 ?_
      refine lv_icmp_ge hx hb d_States_pairs_9 (tgt := 60) rfl (fun hc => ?_) (fun hc => ?_)
      · have hf := (if_pos hc).symm.trans hf
        refine lv_iload_n hx hb d_States_pairs_60 rfl (lv_at hl 1 rfl) ?_
        exact zr_iret G hw hr hlocks hf hQ d_States_pairs_61
      · have hf := (if_neg hc).symm.trans hf
        refine lv_aload_n hx hb d_States_pairs_12 rfl (lv_at hl 0 rfl) ?_
        refine zr_get (ci := 3) G hw 10 5 zi_3 rfl rfl rfl (by decide) zm_29 (fun _ h => h) (v := .ref (ad 16)) rfl d_States_pairs_13 ?_
        refine lv_iload_n hx hb d_States_pairs_16 rfl (lv_at hl 2 rfl) ?_
        obtain ⟨hi1, hf⟩ := zq_gs hf
        refine zr_iald G hw 16 rfl rfl hi1 d_States_pairs_17 ?_
        refine lv_topi (fun v2 e_v2 => ?_)
        have hf := zq_vs e_v2 hf
        refine lv_istore_n hx hb d_States_pairs_18 rfl hl (by decide) rfl (fun ls hl => ?_)
        have hl : lv_has ls 4 [(3, .int v2), (0, .ref (ad 10)), (1, .int x1), (2, .int x2)] := hl
        exact K19 (zf_States_pairs_4 F n) ih F x1 x2 v2 σ H locs ls hf hw (lv_sub hl [1, 2, 3, 0] rfl)
  unfold zf_States_pairs at hf
  refine lv_iconst (v := 0) hx hb d_States_pairs_0 (by decide) ?_
  refine lv_istore_n hx hb d_States_pairs_1 rfl hl (by decide) rfl (fun ls hl => ?_)
  have hl : lv_has ls 4 [(1, .int 0), (0, .ref (ad 10))] := hl
  refine lv_iconst (v := 0) hx hb d_States_pairs_2 (by decide) ?_
  refine lv_istore_n hx hb d_States_pairs_3 rfl hl (by decide) rfl (fun ls hl => ?_)
  have hl : lv_has ls 4 [(2, .int 0), (1, .int 0), (0, .ref (ad 10))] := hl
  exact K4 F 0 0 σ H locs ls hf hw (lv_sub hl [2, 1, 0] rfl)
