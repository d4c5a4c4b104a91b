theorem zn3_0 : Cond.methodLink "ScheduleCheckModel" 3 ⟨"java/lang/Object","<init>","()V"⟩ ∈ zd_ww := zd_me 810 (by decide +kernel) (by decide +kernel)
theorem zn3_1 : Cond.instanceMethod ⟨"java/lang/Object","<init>","()V"⟩ ∈ zd_ww := zd_me 29 (by decide +kernel) (by decide +kernel)
theorem zn3_2 : Cond.code ⟨"java/lang/Object","<init>","()V"⟩ object_method_1_code 1 none ∈ zd_ww := zd_me 30 (by decide +kernel) (by decide +kernel)
theorem zn3_3 : Cond.arrayClass FieldType.byte ∈ zd_ww := zd_me 58 (by decide +kernel) (by decide +kernel)
theorem zn3_4 : Cond.fieldLink "ScheduleCheckModel" 9 "ScheduleCheckModel" "tape" "[B" ∈ zd_ww := zd_me 886 (by decide +kernel) (by decide +kernel)
theorem zn3_5 : Cond.classLink "ScheduleCheckModel" 13 "ScheduleCheckModel$Program" ∈ zd_ww := zd_me 811 (by decide +kernel) (by decide +kernel)
theorem zn3_6 : Cond.instantiable "ScheduleCheckModel$Program" 13 ∈ zd_ww := zd_me 812 (by decide +kernel) (by decide +kernel)
theorem zn3_7 : Cond.initialized "ScheduleCheckModel$Program" ∈ zd_ww := zd_me 12 (by decide +kernel) (by decide +kernel)
theorem zn3_8 : Cond.methodLink "ScheduleCheckModel$Program" 3 ⟨"java/lang/Object","<init>","()V"⟩ ∈ zd_ww := zd_me 816 (by decide +kernel) (by decide +kernel)
theorem zn3_9 : Cond.classLink "ScheduleCheckModel$Program" 9 "ScheduleCheckModel$Names" ∈ zd_ww := zd_me 817 (by decide +kernel) (by decide +kernel)
theorem zn3_10 : Cond.instantiable "ScheduleCheckModel$Names" 3 ∈ zd_ww := zd_me 818 (by decide +kernel) (by decide +kernel)
theorem zn3_11 : Cond.initialized "ScheduleCheckModel$Names" ∈ zd_ww := zd_me 13 (by decide +kernel) (by decide +kernel)
theorem zn3_12 : Cond.methodLink "ScheduleCheckModel$Names" 3 ⟨"java/lang/Object","<init>","()V"⟩ ∈ zd_ww := zd_me 822 (by decide +kernel) (by decide +kernel)
theorem zn3_13 : Cond.fieldLink "ScheduleCheckModel$Names" 9 "ScheduleCheckModel$Names" "text" "[B" ∈ zd_ww := zd_me 823 (by decide +kernel) (by decide +kernel)
theorem zn3_14 : Cond.arrayClass FieldType.int ∈ zd_ww := zd_me 59 (by decide +kernel) (by decide +kernel)
theorem zn3_15 : Cond.fieldLink "ScheduleCheckModel$Names" 15 "ScheduleCheckModel$Names" "size" "[I" ∈ zd_ww := zd_me 824 (by decide +kernel) (by decide +kernel)
theorem zn3_16 : Cond.code ⟨"ScheduleCheckModel$Names","<init>","(I)V"⟩ prog_14_method_1_code 2 none ∈ zd_ww := zd_me 821 (by decide +kernel) (by decide +kernel)
theorem zn3_17 : Cond.methodLink "ScheduleCheckModel$Program" 11 ⟨"ScheduleCheckModel$Names","<init>","(I)V"⟩ ∈ zd_ww := zd_me 819 (by decide +kernel) (by decide +kernel)
theorem zn3_18 : Cond.instanceMethod ⟨"ScheduleCheckModel$Names","<init>","(I)V"⟩ ∈ zd_ww := zd_me 820 (by decide +kernel) (by decide +kernel)
theorem zn3_19 : Cond.fieldLink "ScheduleCheckModel$Program" 14 "ScheduleCheckModel$Program" "variables" "LScheduleCheckModel$Names;" ∈ zd_ww := zd_me 836 (by decide +kernel) (by decide +kernel)
theorem zn3_20 : Cond.fieldLink "ScheduleCheckModel$Program" 20 "ScheduleCheckModel$Program" "locks" "LScheduleCheckModel$Names;" ∈ zd_ww := zd_me 838 (by decide +kernel) (by decide +kernel)
theorem zn3_21 : Cond.fieldLink "ScheduleCheckModel$Program" 23 "ScheduleCheckModel$Program" "locals" "[LScheduleCheckModel$Names;" ∈ zd_ww := zd_me 840 (by decide +kernel) (by decide +kernel)
theorem zn3_22 : Cond.fieldLink "ScheduleCheckModel$Program" 27 "ScheduleCheckModel$Program" "initial" "[I" ∈ zd_ww := zd_me 842 (by decide +kernel) (by decide +kernel)
theorem zn3_23 : Cond.fieldLink "ScheduleCheckModel$Program" 31 "ScheduleCheckModel$Program" "start" "[I" ∈ zd_ww := zd_me 844 (by decide +kernel) (by decide +kernel)
theorem zn3_24 : Cond.fieldLink "ScheduleCheckModel$Program" 34 "ScheduleCheckModel$Program" "kind" "[I" ∈ zd_ww := zd_me 848 (by decide +kernel) (by decide +kernel)
theorem zn3_25 : Cond.fieldLink "ScheduleCheckModel$Program" 37 "ScheduleCheckModel$Program" "what" "[I" ∈ zd_ww := zd_me 850 (by decide +kernel) (by decide +kernel)
theorem zn3_26 : Cond.fieldLink "ScheduleCheckModel$Program" 40 "ScheduleCheckModel$Program" "expression" "[I" ∈ zd_ww := zd_me 852 (by decide +kernel) (by decide +kernel)
theorem zn3_27 : Cond.fieldLink "ScheduleCheckModel$Program" 43 "ScheduleCheckModel$Program" "to" "[I" ∈ zd_ww := zd_me 854 (by decide +kernel) (by decide +kernel)
theorem zn3_28 : Cond.fieldLink "ScheduleCheckModel$Program" 46 "ScheduleCheckModel$Program" "step" "[I" ∈ zd_ww := zd_me 856 (by decide +kernel) (by decide +kernel)
theorem zn3_29 : Cond.code ⟨"ScheduleCheckModel$Program","<init>","()V"⟩ prog_15_method_1_code 2 none ∈ zd_ww := zd_me 815 (by decide +kernel) (by decide +kernel)
theorem zn3_30 : Cond.methodLink "ScheduleCheckModel" 15 ⟨"ScheduleCheckModel$Program","<init>","()V"⟩ ∈ zd_ww := zd_me 813 (by decide +kernel) (by decide +kernel)
theorem zn3_31 : Cond.instanceMethod ⟨"ScheduleCheckModel$Program","<init>","()V"⟩ ∈ zd_ww := zd_me 814 (by decide +kernel) (by decide +kernel)
theorem zn3_32 : Cond.fieldLink "ScheduleCheckModel" 16 "ScheduleCheckModel" "program" "LScheduleCheckModel$Program;" ∈ zd_ww := zd_me 888 (by decide +kernel) (by decide +kernel)
theorem zn3_33 : Cond.fieldLink "ScheduleCheckModel" 20 "ScheduleCheckModel" "spare" "LScheduleCheckModel$Program;" ∈ zd_ww := zd_me 889 (by decide +kernel) (by decide +kernel)
theorem zn3_34 : Cond.fieldLink "ScheduleCheckModel" 23 "ScheduleCheckModel" "open" "[I" ∈ zd_ww := zd_me 901 (by decide +kernel) (by decide +kernel)
theorem zn3_35 : Cond.fieldLink "ScheduleCheckModel" 27 "ScheduleCheckModel" "row" "[I" ∈ zd_ww := zd_me 903 (by decide +kernel) (by decide +kernel)
theorem zn3_36 : Cond.fieldLink "ScheduleCheckModel" 30 "ScheduleCheckModel" "depth" "[I" ∈ zd_ww := zd_me 904 (by decide +kernel) (by decide +kernel)
theorem zn3_37 : Cond.fieldLink "ScheduleCheckModel" 33 "ScheduleCheckModel" "last" "[I" ∈ zd_ww := zd_me 905 (by decide +kernel) (by decide +kernel)
theorem zn3_38 : Cond.fieldLink "ScheduleCheckModel" 36 "ScheduleCheckModel" "before" "[I" ∈ zd_ww := zd_me 906 (by decide +kernel) (by decide +kernel)
theorem zn3_39 : Cond.fieldLink "ScheduleCheckModel" 39 "ScheduleCheckModel" "firstNext" "[I" ∈ zd_ww := zd_me 907 (by decide +kernel) (by decide +kernel)
theorem zn3_40 : Cond.fieldLink "ScheduleCheckModel" 42 "ScheduleCheckModel" "nextOne" "[I" ∈ zd_ww := zd_me 908 (by decide +kernel) (by decide +kernel)
theorem zn3_41 : Cond.fieldLink "ScheduleCheckModel" 45 "ScheduleCheckModel" "now" "[I" ∈ zd_ww := zd_me 911 (by decide +kernel) (by decide +kernel)
theorem zn3_42 : Cond.fieldLink "ScheduleCheckModel" 48 "ScheduleCheckModel" "then" "[I" ∈ zd_ww := zd_me 912 (by decide +kernel) (by decide +kernel)
theorem zn3_43 : Cond.fieldLink "ScheduleCheckModel" 51 "ScheduleCheckModel" "stack" "[I" ∈ zd_ww := zd_me 913 (by decide +kernel) (by decide +kernel)
theorem zn3_44 : Cond.arrayClass FieldType.boolean ∈ zd_ww := zd_me 980 (by decide +kernel) (by decide +kernel)
theorem zn3_45 : Cond.fieldLink "ScheduleCheckModel" 54 "ScheduleCheckModel" "seen" "[Z" ∈ zd_ww := zd_me 916 (by decide +kernel) (by decide +kernel)
theorem zh_8 (ad : Nat → Nat) (o : Nat) : ∀ k, k < 31 → defaultValue (t_zd8 k) = zs_f 3 ad (fun _ => 0) (fun _ => 0) (fun _ => 0) 8 o k := by
  intro k hk
  by_cases h0 : k = 0
  · subst h0; rfl
  by_cases h1 : k = 1
  · subst h1; rfl
  by_cases h2 : k = 2
  · subst h2; rfl
  by_cases h3 : k = 3
  · subst h3; rfl
  by_cases h4 : k = 4
  · subst h4; rfl
  by_cases h5 : k = 5
  · subst h5; rfl
  by_cases h6 : k = 6
  · subst h6; rfl
  by_cases h7 : k = 7
  · subst h7; rfl
  by_cases h8 : k = 8
  · subst h8; rfl
  by_cases h9 : k = 9
  · subst h9; rfl
  by_cases h10 : k = 10
  · subst h10; rfl
  by_cases h11 : k = 11
  · subst h11; rfl
  by_cases h12 : k = 12
  · subst h12; rfl
  by_cases h13 : k = 13
  · subst h13; rfl
  by_cases h14 : k = 14
  · subst h14; rfl
  by_cases h15 : k = 15
  · subst h15; rfl
  by_cases h16 : k = 16
  · subst h16; rfl
  by_cases h17 : k = 17
  · subst h17; rfl
  by_cases h18 : k = 18
  · subst h18; rfl
  by_cases h19 : k = 19
  · subst h19; rfl
  by_cases h20 : k = 20
  · subst h20; rfl
  by_cases h21 : k = 21
  · subst h21; rfl
  by_cases h22 : k = 22
  · subst h22; rfl
  by_cases h23 : k = 23
  · subst h23; rfl
  by_cases h24 : k = 24
  · subst h24; rfl
  by_cases h25 : k = 25
  · subst h25; rfl
  by_cases h26 : k = 26
  · subst h26; rfl
  by_cases h27 : k = 27
  · subst h27; rfl
  by_cases h28 : k = 28
  · subst h28; rfl
  by_cases h29 : k = 29
  · subst h29; rfl
  by_cases h30 : k = 30
  · subst h30; rfl
  exact absurd hk (by omega)
theorem zh_9 (ad : Nat → Nat) (o : Nat) : ∀ k, k < 13 → defaultValue (t_zd9 k) = zs_f 3 ad (fun _ => 0) (fun _ => 0) (fun _ => 0) 9 o k := by
  intro k hk
  by_cases h0 : k = 0
  · subst h0; rfl
  by_cases h1 : k = 1
  · subst h1; rfl
  by_cases h2 : k = 2
  · subst h2; rfl
  by_cases h3 : k = 3
  · subst h3; rfl
  by_cases h4 : k = 4
  · subst h4; rfl
  by_cases h5 : k = 5
  · subst h5; rfl
  by_cases h6 : k = 6
  · subst h6; rfl
  by_cases h7 : k = 7
  · subst h7; rfl
  by_cases h8 : k = 8
  · subst h8; rfl
  by_cases h9 : k = 9
  · subst h9; rfl
  by_cases h10 : k = 10
  · subst h10; rfl
  by_cases h11 : k = 11
  · subst h11; rfl
  by_cases h12 : k = 12
  · subst h12; rfl
  exact absurd hk (by omega)
theorem zh_10 (ad : Nat → Nat) (o : Nat) : ∀ k, k < 3 → defaultValue (t_zd10 k) = zs_f 3 ad (fun _ => 0) (fun _ => 0) (fun _ => 0) 10 o k := by
  intro k hk
  by_cases h0 : k = 0
  · subst h0; rfl
  by_cases h1 : k = 1
  · subst h1; rfl
  by_cases h2 : k = 2
  · subst h2; rfl
  exact absurd hk (by omega)
def y_MN_init : MethodName := ⟨"ScheduleCheckModel$Names","<init>","(I)V"⟩
theorem d_MN_init_0 : decode prog_14_method_1_code 0 = .ok (.aload_n 0, 1) := by decide +kernel
theorem d_MN_init_1 : decode prog_14_method_1_code 1 = .ok (.invokespecial 3, 3) := by decide +kernel
theorem d_MN_init_4 : decode prog_14_method_1_code 4 = .ok (.aload_n 0, 1) := by decide +kernel
theorem d_MN_init_5 : decode prog_14_method_1_code 5 = .ok (.iload_n 1, 1) := by decide +kernel
theorem d_MN_init_6 : decode prog_14_method_1_code 6 = .ok (.bipush 8, 2) := by decide +kernel
theorem d_MN_init_8 : decode prog_14_method_1_code 8 = .ok (.imul, 1) := by decide +kernel
theorem d_MN_init_9 : decode prog_14_method_1_code 9 = .ok (.newarray .byte, 2) := by decide +kernel
theorem d_MN_init_11 : decode prog_14_method_1_code 11 = .ok (.putfield 9, 3) := by decide +kernel
theorem d_MN_init_14 : decode prog_14_method_1_code 14 = .ok (.aload_n 0, 1) := by decide +kernel
theorem d_MN_init_15 : decode prog_14_method_1_code 15 = .ok (.iload_n 1, 1) := by decide +kernel
theorem d_MN_init_16 : decode prog_14_method_1_code 16 = .ok (.newarray .int, 2) := by decide +kernel
theorem d_MN_init_18 : decode prog_14_method_1_code 18 = .ok (.putfield 15, 3) := by decide +kernel
theorem d_MN_init_21 : decode prog_14_method_1_code 21 = .ok (.return_, 1) := by decide +kernel
def zk_f_MN_init_4 (σ : zs_S) : zs_S := (zs_wr (zs_wr σ 4 0 5) 4 1 6)
set_option maxHeartbeats 8000000 in
set_option maxRecDepth 100000 in
theorem zk_MN_init_4 {l : Launch} {D : va_G} {cA : Nat → ClassId} {ad : Nat → Nat} {A : Nat → Prop} {b : Nat} {σ : zs_S} (hJ : zs_J ad) (had : ∀ o, 1 ≤ o → o ≤ zd_M 3 → ad o = b + (o - 1)) (hA : ∀ q, b ≤ q → A q) : Met l y_MN_init (.code y_MN_init prog_14_method_1_code 2 none :: zd_ww) { frames := 1, cells := 2, slots := 72, locals := 30 } (va_Pc [.ref (ad 4), .int 8] (zk_U 3 D cA ad A b 4 σ)) (zk_Q 3 D cA ad A b 6 (zk_f_MN_init_4 σ)) 2 72 A := by
  refine Met.ofW (cc := prog_14_method_1_code) (maxL := 2) (ret := none) (by decide) rfl ?_
  intro p e s m args below meth c s₁ B hml hv
  obtain ⟨hargs, hP, hK, hD, hZ, hz, hd, hO⟩ := hv
  have G : zk_G 3 p s m args c prog_14_method_1_code 2 "ScheduleCheckModel$Names" D cA ad A b := ⟨⟨B.exec, B.bytes, hml, findClass_of_methodNamed B.named, fun w h => atoms_spec B.pre w (List.mem_cons_of_mem _ h)⟩, hK, hJ, hZ, had, hA, hO⟩
  have hw : zk_I 3 D cA ad A s b 4 σ s.heap [] := ⟨hP, hD, va_S.rf, hz, hd⟩
  have hx := G.1.1
  have hb := G.1.2.1
  have hown := G.1.2.2.2.1
  have hts := G.1.2.2.2.2
  have hr := B.returns
  have hlocks := B.notSynchronized
  have hin : meth.name = "<init>" := (name_of_methodNamed B.named B.method).1
  have he : entryFrame m args 2 = F0 m 0 ((lg_sl [.ref (ad 4), .int 8] ++ List.replicate (2 - (lg_sl [.ref (ad 4), .int 8]).length) Slot.unset).toArray) [] := by rw [hargs]; exact lg_entry_eq m _ 2
  have hl := lv_entry [.ref (ad 4), .int 8] (n := 2) (Nat.le_of_ble_eq_true rfl)
  rw [he]
  generalize (lg_sl [.ref (ad 4), .int 8] ++ List.replicate (2 - (lg_sl [.ref (ad 4), .int 8]).length) Slot.unset).toArray = ls at hl
  have hl : lv_has ls 2 [(0, .ref (ad 4)), (1, .int 8)] := hl
  obtain ⟨RR, hR⟩ : ∃ z, z = (headSpec (.code y_MN_init prog_14_method_1_code 2 none :: zd_ww) { frames := 1, cells := 2, slots := 72, locals := 30 }).room := ⟨_, rfl⟩
  rw [← hR]
  obtain ⟨QQ, hQ⟩ : ∃ z, z = MQ below (zk_Q 3 D cA ad A b 6 (zk_f_MN_init_4 σ)) args s 2 72 A := ⟨_, rfl⟩
  rw [← hQ]
  have hR1 : 1 ≤ RR.frames := by rw [hR]; exact Nat.le_refl _
  have hR2 : 30 ≤ RR.locals := by rw [hR]; exact Nat.le_refl _
  have hR3 : 2 ≤ RR.cells := by rw [hR]; exact Nat.le_refl _
  have hR4 : 72 ≤ RR.slots := by rw [hR]; exact Nat.le_refl _
  generalize s.heap = H at hw ⊢
  generalize ([] : List Loc) = locs at hw ⊢
  refine lv_aload_n hx hb d_MN_init_0 rfl (lv_at hl 0 rfl) ?_
  refine W.objInit hx hb hown (hts _ zn3_12) (hts _ zn3_1) (hts _ zn3_2) rfl (by rw [hml]; exact hl.1) rfl d_MN_init_1 (Nat.le_trans (by decide) hR1) (Nat.le_trans (Nat.le_of_ble_eq_true rfl) hR2) ?_
  refine W.eq (g2 := F0 m 4 ls []) rfl ?_
  refine lv_aload_n hx hb d_MN_init_4 rfl (lv_at hl 0 rfl) ?_
  refine lv_iload_n hx hb d_MN_init_5 rfl (lv_at hl 1 rfl) ?_
  refine lv_bipush (v := 8) hx hb d_MN_init_6 (by decide) ?_
  refine lv_imul hx hb d_MN_init_8 ?_
  refine zk_newa (atype := .byte) (t := 1) (N := 64) (n := 8 * 8) G hw zn3_3 rfl (by decide) rfl (by decide) (by decide) (by decide) (by decide) (Nat.le_trans (by decide) hR3) (Nat.le_trans (by decide) hR4) d_MN_init_9 (fun H hw => ?_)
  refine W.widen (k := 1) (n := 64) (by decide) (by decide) ?_
  refine zk_putF (ci := 10) G hw 4 0 (by decide) (by decide) zi_10 t_zd10 t_zd10_ok n_zd10 rfl rfl rfl (by decide) rfl zn3_13 (fun _ h => h) rfl hin rfl (x := 5) (by decide) (t_zd10_ok 0 (by decide)) rfl rfl d_MN_init_11 (fun H locs hw => ?_)
  refine lv_aload_n hx hb d_MN_init_14 rfl (lv_at hl 0 rfl) ?_
  refine lv_iload_n hx hb d_MN_init_15 rfl (lv_at hl 1 rfl) ?_
  refine zk_newa (atype := .int) (t := 0) (N := 8) (n := 8) G hw zn3_14 rfl (by decide) rfl (by decide) (by decide) (by decide) (by decide) (Nat.le_trans (by decide) hR3) (Nat.le_trans (by decide) hR4) d_MN_init_16 (fun H hw => ?_)
  refine W.widen (k := 2) (n := 72) (by decide) (by decide) ?_
  refine zk_putF (ci := 10) G hw 4 1 (by decide) (by decide) zi_10 t_zd10 t_zd10_ok n_zd10 rfl rfl rfl (by decide) rfl zn3_15 (fun _ h => h) rfl hin rfl (x := 6) (by decide) (t_zd10_ok 1 (by decide)) rfl rfl d_MN_init_18 (fun H locs hw => ?_)
  exact zk_vret G hw hr hlocks hQ d_MN_init_21
def zk_f_MN_init_7 (σ : zs_S) : zs_S := (zs_wr (zs_wr σ 7 0 8) 7 1 9)
set_option maxHeartbeats 8000000 in
set_option maxRecDepth 100000 in
theorem zk_MN_init_7 {l : Launch} {D : va_G} {cA : Nat → ClassId} {ad : Nat → Nat} {A : Nat → Prop} {b : Nat} {σ : zs_S} (hJ : zs_J ad) (had : ∀ o, 1 ≤ o → o ≤ zd_M 3 → ad o = b + (o - 1)) (hA : ∀ q, b ≤ q → A q) : Met l y_MN_init (.code y_MN_init prog_14_method_1_code 2 none :: zd_ww) { frames := 1, cells := 2, slots := 36, locals := 30 } (va_Pc [.ref (ad 7), .int 4] (zk_U 3 D cA ad A b 7 σ)) (zk_Q 3 D cA ad A b 9 (zk_f_MN_init_7 σ)) 2 36 A := by
  refine Met.ofW (cc := prog_14_method_1_code) (maxL := 2) (ret := none) (by decide) rfl ?_
  intro p e s m args below meth c s₁ B hml hv
  obtain ⟨hargs, hP, hK, hD, hZ, hz, hd, hO⟩ := hv
  have G : zk_G 3 p s m args c prog_14_method_1_code 2 "ScheduleCheckModel$Names" D cA ad A b := ⟨⟨B.exec, B.bytes, hml, findClass_of_methodNamed B.named, fun w h => atoms_spec B.pre w (List.mem_cons_of_mem _ h)⟩, hK, hJ, hZ, had, hA, hO⟩
  have hw : zk_I 3 D cA ad A s b 7 σ s.heap [] := ⟨hP, hD, va_S.rf, hz, hd⟩
  have hx := G.1.1
  have hb := G.1.2.1
  have hown := G.1.2.2.2.1
  have hts := G.1.2.2.2.2
  have hr := B.returns
  have hlocks := B.notSynchronized
  have hin : meth.name = "<init>" := (name_of_methodNamed B.named B.method).1
  have he : entryFrame m args 2 = F0 m 0 ((lg_sl [.ref (ad 7), .int 4] ++ List.replicate (2 - (lg_sl [.ref (ad 7), .int 4]).length) Slot.unset).toArray) [] := by rw [hargs]; exact lg_entry_eq m _ 2
  have hl := lv_entry [.ref (ad 7), .int 4] (n := 2) (Nat.le_of_ble_eq_true rfl)
  rw [he]
  generalize (lg_sl [.ref (ad 7), .int 4] ++ List.replicate (2 - (lg_sl [.ref (ad 7), .int 4]).length) Slot.unset).toArray = ls at hl
  have hl : lv_has ls 2 [(0, .ref (ad 7)), (1, .int 4)] := hl
  obtain ⟨RR, hR⟩ : ∃ z, z = (headSpec (.code y_MN_init prog_14_method_1_code 2 none :: zd_ww) { frames := 1, cells := 2, slots := 36, locals := 30 }).room := ⟨_, rfl⟩
  rw [← hR]
  obtain ⟨QQ, hQ⟩ : ∃ z, z = MQ below (zk_Q 3 D cA ad A b 9 (zk_f_MN_init_7 σ)) args s 2 36 A := ⟨_, rfl⟩
  rw [← hQ]
  have hR1 : 1 ≤ RR.frames := by rw [hR]; exact Nat.le_refl _
  have hR2 : 30 ≤ RR.locals := by rw [hR]; exact Nat.le_refl _
  have hR3 : 2 ≤ RR.cells := by rw [hR]; exact Nat.le_refl _
  have hR4 : 36 ≤ RR.slots := by rw [hR]; exact Nat.le_refl _
  generalize s.heap = H at hw ⊢
  generalize ([] : List Loc) = locs at hw ⊢
  refine lv_aload_n hx hb d_MN_init_0 rfl (lv_at hl 0 rfl) ?_
  refine W.objInit hx hb hown (hts _ zn3_12) (hts _ zn3_1) (hts _ zn3_2) rfl (by rw [hml]; exact hl.1) rfl d_MN_init_1 (Nat.le_trans (by decide) hR1) (Nat.le_trans (Nat.le_of_ble_eq_true rfl) hR2) ?_
  refine W.eq (g2 := F0 m 4 ls []) rfl ?_
  refine lv_aload_n hx hb d_MN_init_4 rfl (lv_at hl 0 rfl) ?_
  refine lv_iload_n hx hb d_MN_init_5 rfl (lv_at hl 1 rfl) ?_
  refine lv_bipush (v := 8) hx hb d_MN_init_6 (by decide) ?_
  refine lv_imul hx hb d_MN_init_8 ?_
  refine zk_newa (atype := .byte) (t := 1) (N := 32) (n := 4 * 8) G hw zn3_3 rfl (by decide) rfl (by decide) (by decide) (by decide) (by decide) (Nat.le_trans (by decide) hR3) (Nat.le_trans (by decide) hR4) d_MN_init_9 (fun H hw => ?_)
  refine W.widen (k := 1) (n := 32) (by decide) (by decide) ?_
  refine zk_putF (ci := 10) G hw 7 0 (by decide) (by decide) zi_10 t_zd10 t_zd10_ok n_zd10 rfl rfl rfl (by decide) rfl zn3_13 (fun _ h => h) rfl hin rfl (x := 8) (by decide) (t_zd10_ok 0 (by decide)) rfl rfl d_MN_init_11 (fun H locs hw => ?_)
  refine lv_aload_n hx hb d_MN_init_14 rfl (lv_at hl 0 rfl) ?_
  refine lv_iload_n hx hb d_MN_init_15 rfl (lv_at hl 1 rfl) ?_
  refine zk_newa (atype := .int) (t := 0) (N := 4) (n := 4) G hw zn3_14 rfl (by decide) rfl (by decide) (by decide) (by decide) (by decide) (Nat.le_trans (by decide) hR3) (Nat.le_trans (by decide) hR4) d_MN_init_16 (fun H hw => ?_)
  refine W.widen (k := 2) (n := 36) (by decide) (by decide) ?_
  refine zk_putF (ci := 10) G hw 7 1 (by decide) (by decide) zi_10 t_zd10 t_zd10_ok n_zd10 rfl rfl rfl (by decide) rfl zn3_15 (fun _ h => h) rfl hin rfl (x := 9) (by decide) (t_zd10_ok 1 (by decide)) rfl rfl d_MN_init_18 (fun H locs hw => ?_)
  exact zk_vret G hw hr hlocks hQ d_MN_init_21
def zk_f_MN_init_18 (σ : zs_S) : zs_S := (zs_wr (zs_wr σ 18 0 19) 18 1 20)
set_option maxHeartbeats 8000000 in
set_option maxRecDepth 100000 in
theorem zk_MN_init_18 {l : Launch} {D : va_G} {cA : Nat → ClassId} {ad : Nat → Nat} {A : Nat → Prop} {b : Nat} {σ : zs_S} (hJ : zs_J ad) (had : ∀ o, 1 ≤ o → o ≤ zd_M 3 → ad o = b + (o - 1)) (hA : ∀ q, b ≤ q → A q) : Met l y_MN_init (.code y_MN_init prog_14_method_1_code 2 none :: zd_ww) { frames := 1, cells := 2, slots := 27, locals := 30 } (va_Pc [.ref (ad 18), .int 3] (zk_U 3 D cA ad A b 18 σ)) (zk_Q 3 D cA ad A b 20 (zk_f_MN_init_18 σ)) 2 27 A := by
  refine Met.ofW (cc := prog_14_method_1_code) (maxL := 2) (ret := none) (by decide) rfl ?_
  intro p e s m args below meth c s₁ B hml hv
  obtain ⟨hargs, hP, hK, hD, hZ, hz, hd, hO⟩ := hv
  have G : zk_G 3 p s m args c prog_14_method_1_code 2 "ScheduleCheckModel$Names" D cA ad A b := ⟨⟨B.exec, B.bytes, hml, findClass_of_methodNamed B.named, fun w h => atoms_spec B.pre w (List.mem_cons_of_mem _ h)⟩, hK, hJ, hZ, had, hA, hO⟩
  have hw : zk_I 3 D cA ad A s b 18 σ s.heap [] := ⟨hP, hD, va_S.rf, hz, hd⟩
  have hx := G.1.1
  have hb := G.1.2.1
  have hown := G.1.2.2.2.1
  have hts := G.1.2.2.2.2
  have hr := B.returns
  have hlocks := B.notSynchronized
  have hin : meth.name = "<init>" := (name_of_methodNamed B.named B.method).1
  have he : entryFrame m args 2 = F0 m 0 ((lg_sl [.ref (ad 18), .int 3] ++ List.replicate (2 - (lg_sl [.ref (ad 18), .int 3]).length) Slot.unset).toArray) [] := by rw [hargs]; exact lg_entry_eq m _ 2
  have hl := lv_entry [.ref (ad 18), .int 3] (n := 2) (Nat.le_of_ble_eq_true rfl)
  rw [he]
  generalize (lg_sl [.ref (ad 18), .int 3] ++ List.replicate (2 - (lg_sl [.ref (ad 18), .int 3]).length) Slot.unset).toArray = ls at hl
  have hl : lv_has ls 2 [(0, .ref (ad 18)), (1, .int 3)] := hl
  obtain ⟨RR, hR⟩ : ∃ z, z = (headSpec (.code y_MN_init prog_14_method_1_code 2 none :: zd_ww) { frames := 1, cells := 2, slots := 27, locals := 30 }).room := ⟨_, rfl⟩
  rw [← hR]
  obtain ⟨QQ, hQ⟩ : ∃ z, z = MQ below (zk_Q 3 D cA ad A b 20 (zk_f_MN_init_18 σ)) args s 2 27 A := ⟨_, rfl⟩
  rw [← hQ]
  have hR1 : 1 ≤ RR.frames := by rw [hR]; exact Nat.le_refl _
  have hR2 : 30 ≤ RR.locals := by rw [hR]; exact Nat.le_refl _
  have hR3 : 2 ≤ RR.cells := by rw [hR]; exact Nat.le_refl _
  have hR4 : 27 ≤ RR.slots := by rw [hR]; exact Nat.le_refl _
  generalize s.heap = H at hw ⊢
  generalize ([] : List Loc) = locs at hw ⊢
  refine lv_aload_n hx hb d_MN_init_0 rfl (lv_at hl 0 rfl) ?_
  refine W.objInit hx hb hown (hts _ zn3_12) (hts _ zn3_1) (hts _ zn3_2) rfl (by rw [hml]; exact hl.1) rfl d_MN_init_1 (Nat.le_trans (by decide) hR1) (Nat.le_trans (Nat.le_of_ble_eq_true rfl) hR2) ?_
  refine W.eq (g2 := F0 m 4 ls []) rfl ?_
  refine lv_aload_n hx hb d_MN_init_4 rfl (lv_at hl 0 rfl) ?_
  refine lv_iload_n hx hb d_MN_init_5 rfl (lv_at hl 1 rfl) ?_
  refine lv_bipush (v := 8) hx hb d_MN_init_6 (by decide) ?_
  refine lv_imul hx hb d_MN_init_8 ?_
  refine zk_newa (atype := .byte) (t := 1) (N := 24) (n := 3 * 8) G hw zn3_3 rfl (by decide) rfl (by decide) (by decide) (by decide) (by decide) (Nat.le_trans (by decide) hR3) (Nat.le_trans (by decide) hR4) d_MN_init_9 (fun H hw => ?_)
  refine W.widen (k := 1) (n := 24) (by decide) (by decide) ?_
  refine zk_putF (ci := 10) G hw 18 0 (by decide) (by decide) zi_10 t_zd10 t_zd10_ok n_zd10 rfl rfl rfl (by decide) rfl zn3_13 (fun _ h => h) rfl hin rfl (x := 19) (by decide) (t_zd10_ok 0 (by decide)) rfl rfl d_MN_init_11 (fun H locs hw => ?_)
  refine lv_aload_n hx hb d_MN_init_14 rfl (lv_at hl 0 rfl) ?_
  refine lv_iload_n hx hb d_MN_init_15 rfl (lv_at hl 1 rfl) ?_
  refine zk_newa (atype := .int) (t := 0) (N := 3) (n := 3) G hw zn3_14 rfl (by decide) rfl (by decide) (by decide) (by decide) (by decide) (Nat.le_trans (by decide) hR3) (Nat.le_trans (by decide) hR4) d_MN_init_16 (fun H hw => ?_)
  refine W.widen (k := 2) (n := 27) (by decide) (by decide) ?_
  refine zk_putF (ci := 10) G hw 18 1 (by decide) (by decide) zi_10 t_zd10 t_zd10_ok n_zd10 rfl rfl rfl (by decide) rfl zn3_15 (fun _ h => h) rfl hin rfl (x := 20) (by decide) (t_zd10_ok 1 (by decide)) rfl rfl d_MN_init_18 (fun H locs hw => ?_)
  exact zk_vret G hw hr hlocks hQ d_MN_init_21
def zk_f_MN_init_21 (σ : zs_S) : zs_S := (zs_wr (zs_wr σ 21 0 22) 21 1 23)
set_option maxHeartbeats 8000000 in
set_option maxRecDepth 100000 in
theorem zk_MN_init_21 {l : Launch} {D : va_G} {cA : Nat → ClassId} {ad : Nat → Nat} {A : Nat → Prop} {b : Nat} {σ : zs_S} (hJ : zs_J ad) (had : ∀ o, 1 ≤ o → o ≤ zd_M 3 → ad o = b + (o - 1)) (hA : ∀ q, b ≤ q → A q) : Met l y_MN_init (.code y_MN_init prog_14_method_1_code 2 none :: zd_ww) { frames := 1, cells := 2, slots := 27, locals := 30 } (va_Pc [.ref (ad 21), .int 3] (zk_U 3 D cA ad A b 21 σ)) (zk_Q 3 D cA ad A b 23 (zk_f_MN_init_21 σ)) 2 27 A := by
  refine Met.ofW (cc := prog_14_method_1_code) (maxL := 2) (ret := none) (by decide) rfl ?_
  intro p e s m args below meth c s₁ B hml hv
  obtain ⟨hargs, hP, hK, hD, hZ, hz, hd, hO⟩ := hv
  have G : zk_G 3 p s m args c prog_14_method_1_code 2 "ScheduleCheckModel$Names" D cA ad A b := ⟨⟨B.exec, B.bytes, hml, findClass_of_methodNamed B.named, fun w h => atoms_spec B.pre w (List.mem_cons_of_mem _ h)⟩, hK, hJ, hZ, had, hA, hO⟩
  have hw : zk_I 3 D cA ad A s b 21 σ s.heap [] := ⟨hP, hD, va_S.rf, hz, hd⟩
  have hx := G.1.1
  have hb := G.1.2.1
  have hown := G.1.2.2.2.1
  have hts := G.1.2.2.2.2
  have hr := B.returns
  have hlocks := B.notSynchronized
  have hin : meth.name = "<init>" := (name_of_methodNamed B.named B.method).1
  have he : entryFrame m args 2 = F0 m 0 ((lg_sl [.ref (ad 21), .int 3] ++ List.replicate (2 - (lg_sl [.ref (ad 21), .int 3]).length) Slot.unset).toArray) [] := by rw [hargs]; exact lg_entry_eq m _ 2
  have hl := lv_entry [.ref (ad 21), .int 3] (n := 2) (Nat.le_of_ble_eq_true rfl)
  rw [he]
  generalize (lg_sl [.ref (ad 21), .int 3] ++ List.replicate (2 - (lg_sl [.ref (ad 21), .int 3]).length) Slot.unset).toArray = ls at hl
  have hl : lv_has ls 2 [(0, .ref (ad 21)), (1, .int 3)] := hl
  obtain ⟨RR, hR⟩ : ∃ z, z = (headSpec (.code y_MN_init prog_14_method_1_code 2 none :: zd_ww) { frames := 1, cells := 2, slots := 27, locals := 30 }).room := ⟨_, rfl⟩
  rw [← hR]
  obtain ⟨QQ, hQ⟩ : ∃ z, z = MQ below (zk_Q 3 D cA ad A b 23 (zk_f_MN_init_21 σ)) args s 2 27 A := ⟨_, rfl⟩
  rw [← hQ]
  have hR1 : 1 ≤ RR.frames := by rw [hR]; exact Nat.le_refl _
  have hR2 : 30 ≤ RR.locals := by rw [hR]; exact Nat.le_refl _
  have hR3 : 2 ≤ RR.cells := by rw [hR]; exact Nat.le_refl _
  have hR4 : 27 ≤ RR.slots := by rw [hR]; exact Nat.le_refl _
  generalize s.heap = H at hw ⊢
  generalize ([] : List Loc) = locs at hw ⊢
  refine lv_aload_n hx hb d_MN_init_0 rfl (lv_at hl 0 rfl) ?_
  refine W.objInit hx hb hown (hts _ zn3_12) (hts _ zn3_1) (hts _ zn3_2) rfl (by rw [hml]; exact hl.1) rfl d_MN_init_1 (Nat.le_trans (by decide) hR1) (Nat.le_trans (Nat.le_of_ble_eq_true rfl) hR2) ?_
  refine W.eq (g2 := F0 m 4 ls []) rfl ?_
  refine lv_aload_n hx hb d_MN_init_4 rfl (lv_at hl 0 rfl) ?_
  refine lv_iload_n hx hb d_MN_init_5 rfl (lv_at hl 1 rfl) ?_
  refine lv_bipush (v := 8) hx hb d_MN_init_6 (by decide) ?_
  refine lv_imul hx hb d_MN_init_8 ?_
  refine zk_newa (atype := .byte) (t := 1) (N := 24) (n := 3 * 8) G hw zn3_3 rfl (by decide) rfl (by decide) (by decide) (by decide) (by decide) (Nat.le_trans (by decide) hR3) (Nat.le_trans (by decide) hR4) d_MN_init_9 (fun H hw => ?_)
  refine W.widen (k := 1) (n := 24) (by decide) (by decide) ?_
  refine zk_putF (ci := 10) G hw 21 0 (by decide) (by decide) zi_10 t_zd10 t_zd10_ok n_zd10 rfl rfl rfl (by decide) rfl zn3_13 (fun _ h => h) rfl hin rfl (x := 22) (by decide) (t_zd10_ok 0 (by decide)) rfl rfl d_MN_init_11 (fun H locs hw => ?_)
  refine lv_aload_n hx hb d_MN_init_14 rfl (lv_at hl 0 rfl) ?_
  refine lv_iload_n hx hb d_MN_init_15 rfl (lv_at hl 1 rfl) ?_
  refine zk_newa (atype := .int) (t := 0) (N := 3) (n := 3) G hw zn3_14 rfl (by decide) rfl (by decide) (by decide) (by decide) (by decide) (Nat.le_trans (by decide) hR3) (Nat.le_trans (by decide) hR4) d_MN_init_16 (fun H hw => ?_)
  refine W.widen (k := 2) (n := 27) (by decide) (by decide) ?_
  refine zk_putF (ci := 10) G hw 21 1 (by decide) (by decide) zi_10 t_zd10 t_zd10_ok n_zd10 rfl rfl rfl (by decide) rfl zn3_15 (fun _ h => h) rfl hin rfl (x := 23) (by decide) (t_zd10_ok 1 (by decide)) rfl rfl d_MN_init_18 (fun H locs hw => ?_)
  exact zk_vret G hw hr hlocks hQ d_MN_init_21
def zk_f_MN_init_24 (σ : zs_S) : zs_S := (zs_wr (zs_wr σ 24 0 25) 24 1 26)
set_option maxHeartbeats 8000000 in
set_option maxRecDepth 100000 in
theorem zk_MN_init_24 {l : Launch} {D : va_G} {cA : Nat → ClassId} {ad : Nat → Nat} {A : Nat → Prop} {b : Nat} {σ : zs_S} (hJ : zs_J ad) (had : ∀ o, 1 ≤ o → o ≤ zd_M 3 → ad o = b + (o - 1)) (hA : ∀ q, b ≤ q → A q) : Met l y_MN_init (.code y_MN_init prog_14_method_1_code 2 none :: zd_ww) { frames := 1, cells := 2, slots := 27, locals := 30 } (va_Pc [.ref (ad 24), .int 3] (zk_U 3 D cA ad A b 24 σ)) (zk_Q 3 D cA ad A b 26 (zk_f_MN_init_24 σ)) 2 27 A := by
  refine Met.ofW (cc := prog_14_method_1_code) (maxL := 2) (ret := none) (by decide) rfl ?_
  intro p e s m args below meth c s₁ B hml hv
  obtain ⟨hargs, hP, hK, hD, hZ, hz, hd, hO⟩ := hv
  have G : zk_G 3 p s m args c prog_14_method_1_code 2 "ScheduleCheckModel$Names" D cA ad A b := ⟨⟨B.exec, B.bytes, hml, findClass_of_methodNamed B.named, fun w h => atoms_spec B.pre w (List.mem_cons_of_mem _ h)⟩, hK, hJ, hZ, had, hA, hO⟩
  have hw : zk_I 3 D cA ad A s b 24 σ s.heap [] := ⟨hP, hD, va_S.rf, hz, hd⟩
  have hx := G.1.1
  have hb := G.1.2.1
  have hown := G.1.2.2.2.1
  have hts := G.1.2.2.2.2
  have hr := B.returns
  have hlocks := B.notSynchronized
  have hin : meth.name = "<init>" := (name_of_methodNamed B.named B.method).1
  have he : entryFrame m args 2 = F0 m 0 ((lg_sl [.ref (ad 24), .int 3] ++ List.replicate (2 - (lg_sl [.ref (ad 24), .int 3]).length) Slot.unset).toArray) [] := by rw [hargs]; exact lg_entry_eq m _ 2
  have hl := lv_entry [.ref (ad 24), .int 3] (n := 2) (Nat.le_of_ble_eq_true rfl)
  rw [he]
  generalize (lg_sl [.ref (ad 24), .int 3] ++ List.replicate (2 - (lg_sl [.ref (ad 24), .int 3]).length) Slot.unset).toArray = ls at hl
  have hl : lv_has ls 2 [(0, .ref (ad 24)), (1, .int 3)] := hl
  obtain ⟨RR, hR⟩ : ∃ z, z = (headSpec (.code y_MN_init prog_14_method_1_code 2 none :: zd_ww) { frames := 1, cells := 2, slots := 27, locals := 30 }).room := ⟨_, rfl⟩
  rw [← hR]
  obtain ⟨QQ, hQ⟩ : ∃ z, z = MQ below (zk_Q 3 D cA ad A b 26 (zk_f_MN_init_24 σ)) args s 2 27 A := ⟨_, rfl⟩
  rw [← hQ]
  have hR1 : 1 ≤ RR.frames := by rw [hR]; exact Nat.le_refl _
  have hR2 : 30 ≤ RR.locals := by rw [hR]; exact Nat.le_refl _
  have hR3 : 2 ≤ RR.cells := by rw [hR]; exact Nat.le_refl _
  have hR4 : 27 ≤ RR.slots := by rw [hR]; exact Nat.le_refl _
  generalize s.heap = H at hw ⊢
  generalize ([] : List Loc) = locs at hw ⊢
  refine lv_aload_n hx hb d_MN_init_0 rfl (lv_at hl 0 rfl) ?_
  refine W.objInit hx hb hown (hts _ zn3_12) (hts _ zn3_1) (hts _ zn3_2) rfl (by rw [hml]; exact hl.1) rfl d_MN_init_1 (Nat.le_trans (by decide) hR1) (Nat.le_trans (Nat.le_of_ble_eq_true rfl) hR2) ?_
  refine W.eq (g2 := F0 m 4 ls []) rfl ?_
  refine lv_aload_n hx hb d_MN_init_4 rfl (lv_at hl 0 rfl) ?_
  refine lv_iload_n hx hb d_MN_init_5 rfl (lv_at hl 1 rfl) ?_
  refine lv_bipush (v := 8) hx hb d_MN_init_6 (by decide) ?_
  refine lv_imul hx hb d_MN_init_8 ?_
  refine zk_newa (atype := .byte) (t := 1) (N := 24) (n := 3 * 8) G hw zn3_3 rfl (by decide) rfl (by decide) (by decide) (by decide) (by decide) (Nat.le_trans (by decide) hR3) (Nat.le_trans (by decide) hR4) d_MN_init_9 (fun H hw => ?_)
  refine W.widen (k := 1) (n := 24) (by decide) (by decide) ?_
  refine zk_putF (ci := 10) G hw 24 0 (by decide) (by decide) zi_10 t_zd10 t_zd10_ok n_zd10 rfl rfl rfl (by decide) rfl zn3_13 (fun _ h => h) rfl hin rfl (x := 25) (by decide) (t_zd10_ok 0 (by decide)) rfl rfl d_MN_init_11 (fun H locs hw => ?_)
  refine lv_aload_n hx hb d_MN_init_14 rfl (lv_at hl 0 rfl) ?_
  refine lv_iload_n hx hb d_MN_init_15 rfl (lv_at hl 1 rfl) ?_
  refine zk_newa (atype := .int) (t := 0) (N := 3) (n := 3) G hw zn3_14 rfl (by decide) rfl (by decide) (by decide) (by decide) (by decide) (Nat.le_trans (by decide) hR3) (Nat.le_trans (by decide) hR4) d_MN_init_16 (fun H hw => ?_)
  refine W.widen (k := 2) (n := 27) (by decide) (by decide) ?_
  refine zk_putF (ci := 10) G hw 24 1 (by decide) (by decide) zi_10 t_zd10 t_zd10_ok n_zd10 rfl rfl rfl (by decide) rfl zn3_15 (fun _ h => h) rfl hin rfl (x := 26) (by decide) (t_zd10_ok 1 (by decide)) rfl rfl d_MN_init_18 (fun H locs hw => ?_)
  exact zk_vret G hw hr hlocks hQ d_MN_init_21
def zk_f_MN_init_27 (σ : zs_S) : zs_S := (zs_wr (zs_wr σ 27 0 28) 27 1 29)
set_option maxHeartbeats 8000000 in
set_option maxRecDepth 100000 in
theorem zk_MN_init_27 {l : Launch} {D : va_G} {cA : Nat → ClassId} {ad : Nat → Nat} {A : Nat → Prop} {b : Nat} {σ : zs_S} (hJ : zs_J ad) (had : ∀ o, 1 ≤ o → o ≤ zd_M 3 → ad o = b + (o - 1)) (hA : ∀ q, b ≤ q → A q) : Met l y_MN_init (.code y_MN_init prog_14_method_1_code 2 none :: zd_ww) { frames := 1, cells := 2, slots := 27, locals := 30 } (va_Pc [.ref (ad 27), .int 3] (zk_U 3 D cA ad A b 27 σ)) (zk_Q 3 D cA ad A b 29 (zk_f_MN_init_27 σ)) 2 27 A := by
  refine Met.ofW (cc := prog_14_method_1_code) (maxL := 2) (ret := none) (by decide) rfl ?_
  intro p e s m args below meth c s₁ B hml hv
  obtain ⟨hargs, hP, hK, hD, hZ, hz, hd, hO⟩ := hv
  have G : zk_G 3 p s m args c prog_14_method_1_code 2 "ScheduleCheckModel$Names" D cA ad A b := ⟨⟨B.exec, B.bytes, hml, findClass_of_methodNamed B.named, fun w h => atoms_spec B.pre w (List.mem_cons_of_mem _ h)⟩, hK, hJ, hZ, had, hA, hO⟩
  have hw : zk_I 3 D cA ad A s b 27 σ s.heap [] := ⟨hP, hD, va_S.rf, hz, hd⟩
  have hx := G.1.1
  have hb := G.1.2.1
  have hown := G.1.2.2.2.1
  have hts := G.1.2.2.2.2
  have hr := B.returns
  have hlocks := B.notSynchronized
  have hin : meth.name = "<init>" := (name_of_methodNamed B.named B.method).1
  have he : entryFrame m args 2 = F0 m 0 ((lg_sl [.ref (ad 27), .int 3] ++ List.replicate (2 - (lg_sl [.ref (ad 27), .int 3]).length) Slot.unset).toArray) [] := by rw [hargs]; exact lg_entry_eq m _ 2
  have hl := lv_entry [.ref (ad 27), .int 3] (n := 2) (Nat.le_of_ble_eq_true rfl)
  rw [he]
  generalize (lg_sl [.ref (ad 27), .int 3] ++ List.replicate (2 - (lg_sl [.ref (ad 27), .int 3]).length) Slot.unset).toArray = ls at hl
  have hl : lv_has ls 2 [(0, .ref (ad 27)), (1, .int 3)] := hl
  obtain ⟨RR, hR⟩ : ∃ z, z = (headSpec (.code y_MN_init prog_14_method_1_code 2 none :: zd_ww) { frames := 1, cells := 2, slots := 27, locals := 30 }).room := ⟨_, rfl⟩
  rw [← hR]
  obtain ⟨QQ, hQ⟩ : ∃ z, z = MQ below (zk_Q 3 D cA ad A b 29 (zk_f_MN_init_27 σ)) args s 2 27 A := ⟨_, rfl⟩
  rw [← hQ]
  have hR1 : 1 ≤ RR.frames := by rw [hR]; exact Nat.le_refl _
  have hR2 : 30 ≤ RR.locals := by rw [hR]; exact Nat.le_refl _
  have hR3 : 2 ≤ RR.cells := by rw [hR]; exact Nat.le_refl _
  have hR4 : 27 ≤ RR.slots := by rw [hR]; exact Nat.le_refl _
  generalize s.heap = H at hw ⊢
  generalize ([] : List Loc) = locs at hw ⊢
  refine lv_aload_n hx hb d_MN_init_0 rfl (lv_at hl 0 rfl) ?_
  refine W.objInit hx hb hown (hts _ zn3_12) (hts _ zn3_1) (hts _ zn3_2) rfl (by rw [hml]; exact hl.1) rfl d_MN_init_1 (Nat.le_trans (by decide) hR1) (Nat.le_trans (Nat.le_of_ble_eq_true rfl) hR2) ?_
  refine W.eq (g2 := F0 m 4 ls []) rfl ?_
  refine lv_aload_n hx hb d_MN_init_4 rfl (lv_at hl 0 rfl) ?_
  refine lv_iload_n hx hb d_MN_init_5 rfl (lv_at hl 1 rfl) ?_
  refine lv_bipush (v := 8) hx hb d_MN_init_6 (by decide) ?_
  refine lv_imul hx hb d_MN_init_8 ?_
  refine zk_newa (atype := .byte) (t := 1) (N := 24) (n := 3 * 8) G hw zn3_3 rfl (by decide) rfl (by decide) (by decide) (by decide) (by decide) (Nat.le_trans (by decide) hR3) (Nat.le_trans (by decide) hR4) d_MN_init_9 (fun H hw => ?_)
  refine W.widen (k := 1) (n := 24) (by decide) (by decide) ?_
  refine zk_putF (ci := 10) G hw 27 0 (by decide) (by decide) zi_10 t_zd10 t_zd10_ok n_zd10 rfl rfl rfl (by decide) rfl zn3_13 (fun _ h => h) rfl hin rfl (x := 28) (by decide) (t_zd10_ok 0 (by decide)) rfl rfl d_MN_init_11 (fun H locs hw => ?_)
  refine lv_aload_n hx hb d_MN_init_14 rfl (lv_at hl 0 rfl) ?_
  refine lv_iload_n hx hb d_MN_init_15 rfl (lv_at hl 1 rfl) ?_
  refine zk_newa (atype := .int) (t := 0) (N := 3) (n := 3) G hw zn3_14 rfl (by decide) rfl (by decide) (by decide) (by decide) (by decide) (Nat.le_trans (by decide) hR3) (Nat.le_trans (by decide) hR4) d_MN_init_16 (fun H hw => ?_)
  refine W.widen (k := 2) (n := 27) (by decide) (by decide) ?_
  refine zk_putF (ci := 10) G hw 27 1 (by decide) (by decide) zi_10 t_zd10 t_zd10_ok n_zd10 rfl rfl rfl (by decide) rfl zn3_15 (fun _ h => h) rfl hin rfl (x := 29) (by decide) (t_zd10_ok 1 (by decide)) rfl rfl d_MN_init_18 (fun H locs hw => ?_)
  exact zk_vret G hw hr hlocks hQ d_MN_init_21
def y_MP_init : MethodName := ⟨"ScheduleCheckModel$Program","<init>","()V"⟩
theorem d_MP_init_0 : decode prog_15_method_1_code 0 = .ok (.aload_n 0, 1) := by decide +kernel
theorem d_MP_init_1 : decode prog_15_method_1_code 1 = .ok (.invokespecial 3, 3) := by decide +kernel
theorem d_MP_init_4 : decode prog_15_method_1_code 4 = .ok (.aload_n 0, 1) := by decide +kernel
theorem d_MP_init_5 : decode prog_15_method_1_code 5 = .ok (.new 9, 3) := by decide +kernel
theorem d_MP_init_8 : decode prog_15_method_1_code 8 = .ok (.dup, 1) := by decide +kernel
theorem d_MP_init_9 : decode prog_15_method_1_code 9 = .ok (.bipush 8, 2) := by decide +kernel
theorem d_MP_init_11 : decode prog_15_method_1_code 11 = .ok (.invokespecial 11, 3) := by decide +kernel
theorem d_MP_init_14 : decode prog_15_method_1_code 14 = .ok (.putfield 14, 3) := by decide +kernel
theorem d_MP_init_17 : decode prog_15_method_1_code 17 = .ok (.aload_n 0, 1) := by decide +kernel
theorem d_MP_init_18 : decode prog_15_method_1_code 18 = .ok (.new 9, 3) := by decide +kernel
theorem d_MP_init_21 : decode prog_15_method_1_code 21 = .ok (.dup, 1) := by decide +kernel
theorem d_MP_init_22 : decode prog_15_method_1_code 22 = .ok (.iconst 4, 1) := by decide +kernel
theorem d_MP_init_23 : decode prog_15_method_1_code 23 = .ok (.invokespecial 11, 3) := by decide +kernel
theorem d_MP_init_26 : decode prog_15_method_1_code 26 = .ok (.putfield 20, 3) := by decide +kernel
theorem d_MP_init_29 : decode prog_15_method_1_code 29 = .ok (.aload_n 0, 1) := by decide +kernel
theorem d_MP_init_30 : decode prog_15_method_1_code 30 = .ok (.iconst 4, 1) := by decide +kernel
theorem d_MP_init_31 : decode prog_15_method_1_code 31 = .ok (.anewarray 9, 3) := by decide +kernel
theorem d_MP_init_34 : decode prog_15_method_1_code 34 = .ok (.putfield 23, 3) := by decide +kernel
theorem d_MP_init_37 : decode prog_15_method_1_code 37 = .ok (.aload_n 0, 1) := by decide +kernel
theorem d_MP_init_38 : decode prog_15_method_1_code 38 = .ok (.bipush 8, 2) := by decide +kernel
theorem d_MP_init_40 : decode prog_15_method_1_code 40 = .ok (.newarray .int, 2) := by decide +kernel
theorem d_MP_init_42 : decode prog_15_method_1_code 42 = .ok (.putfield 27, 3) := by decide +kernel
theorem d_MP_init_45 : decode prog_15_method_1_code 45 = .ok (.aload_n 0, 1) := by decide +kernel
theorem d_MP_init_46 : decode prog_15_method_1_code 46 = .ok (.iconst 4, 1) := by decide +kernel
theorem d_MP_init_47 : decode prog_15_method_1_code 47 = .ok (.newarray .int, 2) := by decide +kernel
theorem d_MP_init_49 : decode prog_15_method_1_code 49 = .ok (.putfield 31, 3) := by decide +kernel
theorem d_MP_init_52 : decode prog_15_method_1_code 52 = .ok (.aload_n 0, 1) := by decide +kernel
theorem d_MP_init_53 : decode prog_15_method_1_code 53 = .ok (.bipush 50, 2) := by decide +kernel
theorem d_MP_init_55 : decode prog_15_method_1_code 55 = .ok (.newarray .int, 2) := by decide +kernel
theorem d_MP_init_57 : decode prog_15_method_1_code 57 = .ok (.putfield 34, 3) := by decide +kernel
theorem d_MP_init_60 : decode prog_15_method_1_code 60 = .ok (.aload_n 0, 1) := by decide +kernel
theorem d_MP_init_61 : decode prog_15_method_1_code 61 = .ok (.bipush 50, 2) := by decide +kernel
theorem d_MP_init_63 : decode prog_15_method_1_code 63 = .ok (.newarray .int, 2) := by decide +kernel
theorem d_MP_init_65 : decode prog_15_method_1_code 65 = .ok (.putfield 37, 3) := by decide +kernel
theorem d_MP_init_68 : decode prog_15_method_1_code 68 = .ok (.aload_n 0, 1) := by decide +kernel
theorem d_MP_init_69 : decode prog_15_method_1_code 69 = .ok (.bipush 50, 2) := by decide +kernel
theorem d_MP_init_71 : decode prog_15_method_1_code 71 = .ok (.newarray .int, 2) := by decide +kernel
theorem d_MP_init_73 : decode prog_15_method_1_code 73 = .ok (.putfield 40, 3) := by decide +kernel
theorem d_MP_init_76 : decode prog_15_method_1_code 76 = .ok (.aload_n 0, 1) := by decide +kernel
theorem d_MP_init_77 : decode prog_15_method_1_code 77 = .ok (.sipush 150, 3) := by decide +kernel
theorem d_MP_init_80 : decode prog_15_method_1_code 80 = .ok (.newarray .int, 2) := by decide +kernel
theorem d_MP_init_82 : decode prog_15_method_1_code 82 = .ok (.putfield 43, 3) := by decide +kernel
theorem d_MP_init_85 : decode prog_15_method_1_code 85 = .ok (.aload_n 0, 1) := by decide +kernel
theorem d_MP_init_86 : decode prog_15_method_1_code 86 = .ok (.sipush 6400, 3) := by decide +kernel
theorem d_MP_init_89 : decode prog_15_method_1_code 89 = .ok (.newarray .int, 2) := by decide +kernel
theorem d_MP_init_91 : decode prog_15_method_1_code 91 = .ok (.putfield 46, 3) := by decide +kernel
theorem d_MP_init_94 : decode prog_15_method_1_code 94 = .ok (.iconst 0, 1) := by decide +kernel
theorem d_MP_init_95 : decode prog_15_method_1_code 95 = .ok (.istore_n 1, 1) := by decide +kernel
theorem d_MP_init_96 : decode prog_15_method_1_code 96 = .ok (.iload_n 1, 1) := by decide +kernel
theorem d_MP_init_97 : decode prog_15_method_1_code 97 = .ok (.iconst 4, 1) := by decide +kernel
theorem d_MP_init_98 : decode prog_15_method_1_code 98 = .ok (.if_icmp .ge 23, 3) := by decide +kernel
theorem d_MP_init_101 : decode prog_15_method_1_code 101 = .ok (.aload_n 0, 1) := by decide +kernel
theorem d_MP_init_102 : decode prog_15_method_1_code 102 = .ok (.getfield 23, 3) := by decide +kernel
theorem d_MP_init_105 : decode prog_15_method_1_code 105 = .ok (.iload_n 1, 1) := by decide +kernel
theorem d_MP_init_106 : decode prog_15_method_1_code 106 = .ok (.new 9, 3) := by decide +kernel
theorem d_MP_init_109 : decode prog_15_method_1_code 109 = .ok (.dup, 1) := by decide +kernel
theorem d_MP_init_110 : decode prog_15_method_1_code 110 = .ok (.iconst 3, 1) := by decide +kernel
theorem d_MP_init_111 : decode prog_15_method_1_code 111 = .ok (.invokespecial 11, 3) := by decide +kernel
theorem d_MP_init_114 : decode prog_15_method_1_code 114 = .ok (.aastore, 1) := by decide +kernel
theorem d_MP_init_115 : decode prog_15_method_1_code 115 = .ok (.iinc 1 1, 3) := by decide +kernel
theorem d_MP_init_118 : decode prog_15_method_1_code 118 = .ok (.goto (-22), 3) := by decide +kernel
theorem d_MP_init_121 : decode prog_15_method_1_code 121 = .ok (.return_, 1) := by decide +kernel
def zk_f_MP_init_3 (σ : zs_S) : zs_S := (zs_wr (zk_f_MN_init_27 (zs_wr (zk_f_MN_init_24 (zs_wr (zk_f_MN_init_21 (zs_wr (zk_f_MN_init_18 (zs_wr (zs_wr (zs_wr (zs_wr (zs_wr (zs_wr (zs_wr (zs_wr (zs_wr (zk_f_MN_init_7 (zs_wr (zk_f_MN_init_4 σ) 3 0 4)) 3 1 7) 3 2 10) 3 3 11) 3 4 12) 3 7 13) 3 8 14) 3 9 15) 3 10 16) 3 11 17)) 10 (0 : Int32).toNatClampNeg 18)) 10 (1 : Int32).toNatClampNeg 21)) 10 (2 : Int32).toNatClampNeg 24)) 10 (3 : Int32).toNatClampNeg 27)
set_option maxHeartbeats 8000000 in
set_option maxRecDepth 100000 in
theorem zk_MP_init_3 {l : Launch} {D : va_G} {cA : Nat → ClassId} {ad : Nat → Nat} {A : Nat → Prop} {b : Nat} {σ : zs_S} (hJ : zs_J ad) (had : ∀ o, 1 ≤ o → o ≤ zd_M 3 → ad o = b + (o - 1)) (hA : ∀ q, b ≤ q → A q) : Met l y_MP_init (.code y_MP_init prog_15_method_1_code 2 none :: zd_ww) { frames := 2, cells := 26, slots := 6950, locals := 51 } (va_Pc [.ref (ad 3)] (zk_U 3 D cA ad A b 3 σ)) (zk_Q 3 D cA ad A b 29 (zk_f_MP_init_3 σ)) 26 6950 A := by
  refine Met.ofW (cc := prog_15_method_1_code) (maxL := 2) (ret := none) (by decide) rfl ?_
  intro p e s m args below meth c s₁ B hml hv
  obtain ⟨hargs, hP, hK, hD, hZ, hz, hd, hO⟩ := hv
  have G : zk_G 3 p s m args c prog_15_method_1_code 2 "ScheduleCheckModel$Program" D cA ad A b := ⟨⟨B.exec, B.bytes, hml, findClass_of_methodNamed B.named, fun w h => atoms_spec B.pre w (List.mem_cons_of_mem _ h)⟩, hK, hJ, hZ, had, hA, hO⟩
  have hw : zk_I 3 D cA ad A s b 3 σ s.heap [] := ⟨hP, hD, va_S.rf, hz, hd⟩
  have hx := G.1.1
  have hb := G.1.2.1
  have hown := G.1.2.2.2.1
  have hts := G.1.2.2.2.2
  have hr := B.returns
  have hlocks := B.notSynchronized
  have hin : meth.name = "<init>" := (name_of_methodNamed B.named B.method).1
  have he : entryFrame m args 2 = F0 m 0 ((lg_sl [.ref (ad 3)] ++ List.replicate (2 - (lg_sl [.ref (ad 3)]).length) Slot.unset).toArray) [] := by rw [hargs]; exact lg_entry_eq m _ 2
  have hl := lv_entry [.ref (ad 3)] (n := 2) (Nat.le_of_ble_eq_true rfl)
  rw [he]
  generalize (lg_sl [.ref (ad 3)] ++ List.replicate (2 - (lg_sl [.ref (ad 3)]).length) Slot.unset).toArray = ls at hl
  have hl : lv_has ls 2 [(0, .ref (ad 3))] := hl
  obtain ⟨RR, hR⟩ : ∃ z, z = (headSpec (.code y_MP_init prog_15_method_1_code 2 none :: zd_ww) { frames := 2, cells := 26, slots := 6950, locals := 51 }).room := ⟨_, rfl⟩
  rw [← hR]
  obtain ⟨QQ, hQ⟩ : ∃ z, z = MQ below (zk_Q 3 D cA ad A b 29 (zk_f_MP_init_3 σ)) args s 26 6950 A := ⟨_, rfl⟩
  rw [← hQ]
  have hR1 : 2 ≤ RR.frames := by rw [hR]; exact Nat.le_refl _
  have hR2 : 51 ≤ RR.locals := by rw [hR]; exact Nat.le_refl _
  have hR3 : 26 ≤ RR.cells := by rw [hR]; exact Nat.le_refl _
  have hR4 : 6950 ≤ RR.slots := by rw [hR]; exact Nat.le_refl _
  generalize s.heap = H at hw ⊢
  generalize ([] : List Loc) = locs at hw ⊢
  refine lv_aload_n hx hb d_MP_init_0 rfl (lv_at hl 0 rfl) ?_
  refine W.objInit hx hb hown (hts _ zn3_8) (hts _ zn3_1) (hts _ zn3_2) rfl (by rw [hml]; exact hl.1) rfl d_MP_init_1 (Nat.le_trans (by decide) hR1) (Nat.le_trans (Nat.le_of_ble_eq_true rfl) hR2) ?_
  refine W.eq (g2 := F0 m 4 ls []) rfl ?_
  refine lv_aload_n hx hb d_MP_init_4 rfl (lv_at hl 0 rfl) ?_
  refine zk_new (ci := 10) G hw zi_10 t_zd10 t_zd10_ok rfl rfl rfl (by decide) (zh_10 ad _) zn3_9 zn3_10 zn3_11 (Nat.le_trans (by decide) hR3) (Nat.le_trans (by decide) hR4) d_MP_init_5 (fun H hw => ?_)
  refine W.widen (k := 1) (n := 3) (by decide) (by decide) ?_
  refine lv_dup hx hb d_MP_init_8 rfl ?_
  refine lv_bipush (v := 8) hx hb d_MP_init_9 (by decide) ?_
  refine zk_call (rest := [.ref (ad 4), .ref (ad 3)]) (o := 4) G hw [.int 8] (zk_MN_init_4 hJ had hA) (cwI 1 hts (zs_gC zn3_16) rfl rfl rfl (hts _ zn3_11) (hts _ zn3_17) (hts _ zn3_18) rfl (by decide +kernel) ⟨Nat.le_trans (by decide) hR1, Nat.le_trans (by decide) hR2⟩) rfl hl.1 (Nat.le_of_ble_eq_true rfl) d_MP_init_11 ⟨Nat.le_trans (by decide) hR3, Nat.le_trans (by decide) hR4⟩ (fun H locs hw => ?_)
  refine W.widen (k := 3) (n := 75) (by decide) (by decide) ?_
  refine zk_putF (ci := 9) G hw 3 0 (by decide) (by decide) zi_9 t_zd9 t_zd9_ok n_zd9 rfl rfl rfl (by decide) rfl zn3_19 (fun _ h => h) rfl hin rfl (x := 4) (by decide) (t_zd9_ok 0 (by decide)) rfl rfl d_MP_init_14 (fun H locs hw => ?_)
  refine lv_aload_n hx hb d_MP_init_17 rfl (lv_at hl 0 rfl) ?_
  refine zk_new (ci := 10) G hw zi_10 t_zd10 t_zd10_ok rfl rfl rfl (by decide) (zh_10 ad _) zn3_9 zn3_10 zn3_11 (Nat.le_trans (by decide) hR3) (Nat.le_trans (by decide) hR4) d_MP_init_18 (fun H hw => ?_)
  refine W.widen (k := 4) (n := 78) (by decide) (by decide) ?_
  refine lv_dup hx hb d_MP_init_21 rfl ?_
  refine lv_iconst (v := 4) hx hb d_MP_init_22 (by decide) ?_
  refine zk_call (rest := [.ref (ad 7), .ref (ad 3)]) (o := 7) G hw [.int 4] (zk_MN_init_7 hJ had hA) (cwI 1 hts (zs_gC zn3_16) rfl rfl rfl (hts _ zn3_11) (hts _ zn3_17) (hts _ zn3_18) rfl (by decide +kernel) ⟨Nat.le_trans (by decide) hR1, Nat.le_trans (by decide) hR2⟩) rfl hl.1 (Nat.le_of_ble_eq_true rfl) d_MP_init_23 ⟨Nat.le_trans (by decide) hR3, Nat.le_trans (by decide) hR4⟩ (fun H locs hw => ?_)
  refine W.widen (k := 6) (n := 114) (by decide) (by decide) ?_
  refine zk_putF (ci := 9) G hw 3 1 (by decide) (by decide) zi_9 t_zd9 t_zd9_ok n_zd9 rfl rfl rfl (by decide) rfl zn3_20 (fun _ h => h) rfl hin rfl (x := 7) (by decide) (t_zd9_ok 1 (by decide)) rfl rfl d_MP_init_26 (fun H locs hw => ?_)
  refine lv_aload_n hx hb d_MP_init_29 rfl (lv_at hl 0 rfl) ?_
  refine lv_iconst (v := 4) hx hb d_MP_init_30 (by decide) ?_
  refine zk_newq (t := 8) (N := 4) (n := 4) G hw zn3_9 (G.2.2.2.2.2.2.2 rfl) rfl (by decide) rfl (by decide) (by decide) (by decide) (by decide) (Nat.le_trans (by decide) hR3) (Nat.le_trans (by decide) hR4) d_MP_init_31 (fun H hw => ?_)
  refine W.widen (k := 7) (n := 118) (by decide) (by decide) ?_
  refine zk_putF (ci := 9) G hw 3 2 (by decide) (by decide) zi_9 t_zd9 t_zd9_ok n_zd9 rfl rfl rfl (by decide) rfl zn3_21 (fun _ h => h) rfl hin rfl (x := 10) (by decide) (t_zd9_ok 2 (by decide)) rfl rfl d_MP_init_34 (fun H locs hw => ?_)
  refine lv_aload_n hx hb d_MP_init_37 rfl (lv_at hl 0 rfl) ?_
  refine lv_bipush (v := 8) hx hb d_MP_init_38 (by decide) ?_
  refine zk_newa (atype := .int) (t := 0) (N := 8) (n := 8) G hw zn3_14 rfl (by decide) rfl (by decide) (by decide) (by decide) (by decide) (Nat.le_trans (by decide) hR3) (Nat.le_trans (by decide) hR4) d_MP_init_40 (fun H hw => ?_)
  refine W.widen (k := 8) (n := 126) (by decide) (by decide) ?_
  refine zk_putF (ci := 9) G hw 3 3 (by decide) (by decide) zi_9 t_zd9 t_zd9_ok n_zd9 rfl rfl rfl (by decide) rfl zn3_22 (fun _ h => h) rfl hin rfl (x := 11) (by decide) (t_zd9_ok 3 (by decide)) rfl rfl d_MP_init_42 (fun H locs hw => ?_)
  refine lv_aload_n hx hb d_MP_init_45 rfl (lv_at hl 0 rfl) ?_
  refine lv_iconst (v := 4) hx hb d_MP_init_46 (by decide) ?_
  refine zk_newa (atype := .int) (t := 0) (N := 4) (n := 4) G hw zn3_14 rfl (by decide) rfl (by decide) (by decide) (by decide) (by decide) (Nat.le_trans (by decide) hR3) (Nat.le_trans (by decide) hR4) d_MP_init_47 (fun H hw => ?_)
  refine W.widen (k := 9) (n := 130) (by decide) (by decide) ?_
  refine zk_putF (ci := 9) G hw 3 4 (by decide) (by decide) zi_9 t_zd9 t_zd9_ok n_zd9 rfl rfl rfl (by decide) rfl zn3_23 (fun _ h => h) rfl hin rfl (x := 12) (by decide) (t_zd9_ok 4 (by decide)) rfl rfl d_MP_init_49 (fun H locs hw => ?_)
  refine lv_aload_n hx hb d_MP_init_52 rfl (lv_at hl 0 rfl) ?_
  refine lv_bipush (v := 50) hx hb d_MP_init_53 (by decide) ?_
  refine zk_newa (atype := .int) (t := 0) (N := 50) (n := 50) G hw zn3_14 rfl (by decide) rfl (by decide) (by decide) (by decide) (by decide) (Nat.le_trans (by decide) hR3) (Nat.le_trans (by decide) hR4) d_MP_init_55 (fun H hw => ?_)
  refine W.widen (k := 10) (n := 180) (by decide) (by decide) ?_
  refine zk_putF (ci := 9) G hw 3 7 (by decide) (by decide) zi_9 t_zd9 t_zd9_ok n_zd9 rfl rfl rfl (by decide) rfl zn3_24 (fun _ h => h) rfl hin rfl (x := 13) (by decide) (t_zd9_ok 7 (by decide)) rfl rfl d_MP_init_57 (fun H locs hw => ?_)
  refine lv_aload_n hx hb d_MP_init_60 rfl (lv_at hl 0 rfl) ?_
  refine lv_bipush (v := 50) hx hb d_MP_init_61 (by decide) ?_
  refine zk_newa (atype := .int) (t := 0) (N := 50) (n := 50) G hw zn3_14 rfl (by decide) rfl (by decide) (by decide) (by decide) (by decide) (Nat.le_trans (by decide) hR3) (Nat.le_trans (by decide) hR4) d_MP_init_63 (fun H hw => ?_)
  refine W.widen (k := 11) (n := 230) (by decide) (by decide) ?_
  refine zk_putF (ci := 9) G hw 3 8 (by decide) (by decide) zi_9 t_zd9 t_zd9_ok n_zd9 rfl rfl rfl (by decide) rfl zn3_25 (fun _ h => h) rfl hin rfl (x := 14) (by decide) (t_zd9_ok 8 (by decide)) rfl rfl d_MP_init_65 (fun H locs hw => ?_)
  refine lv_aload_n hx hb d_MP_init_68 rfl (lv_at hl 0 rfl) ?_
  refine lv_bipush (v := 50) hx hb d_MP_init_69 (by decide) ?_
  refine zk_newa (atype := .int) (t := 0) (N := 50) (n := 50) G hw zn3_14 rfl (by decide) rfl (by decide) (by decide) (by decide) (by decide) (Nat.le_trans (by decide) hR3) (Nat.le_trans (by decide) hR4) d_MP_init_71 (fun H hw => ?_)
  refine W.widen (k := 12) (n := 280) (by decide) (by decide) ?_
  refine zk_putF (ci := 9) G hw 3 9 (by decide) (by decide) zi_9 t_zd9 t_zd9_ok n_zd9 rfl rfl rfl (by decide) rfl zn3_26 (fun _ h => h) rfl hin rfl (x := 15) (by decide) (t_zd9_ok 9 (by decide)) rfl rfl d_MP_init_73 (fun H locs hw => ?_)
  refine lv_aload_n hx hb d_MP_init_76 rfl (lv_at hl 0 rfl) ?_
  refine lv_sipush (v := 150) hx hb d_MP_init_77 (by decide) ?_
  refine zk_newa (atype := .int) (t := 0) (N := 150) (n := 150) G hw zn3_14 rfl (by decide) rfl (by decide) (by decide) (by decide) (by decide) (Nat.le_trans (by decide) hR3) (Nat.le_trans (by decide) hR4) d_MP_init_80 (fun H hw => ?_)
  refine W.widen (k := 13) (n := 430) (by decide) (by decide) ?_
  refine zk_putF (ci := 9) G hw 3 10 (by decide) (by decide) zi_9 t_zd9 t_zd9_ok n_zd9 rfl rfl rfl (by decide) rfl zn3_27 (fun _ h => h) rfl hin rfl (x := 16) (by decide) (t_zd9_ok 10 (by decide)) rfl rfl d_MP_init_82 (fun H locs hw => ?_)
  refine lv_aload_n hx hb d_MP_init_85 rfl (lv_at hl 0 rfl) ?_
  refine lv_sipush (v := 6400) hx hb d_MP_init_86 (by decide) ?_
  refine zk_newa (atype := .int) (t := 0) (N := 6400) (n := 6400) G hw zn3_14 rfl (by decide) rfl (by decide) (by decide) (by decide) (by decide) (Nat.le_trans (by decide) hR3) (Nat.le_trans (by decide) hR4) d_MP_init_89 (fun H hw => ?_)
  refine W.widen (k := 14) (n := 6830) (by decide) (by decide) ?_
  refine zk_putF (ci := 9) G hw 3 11 (by decide) (by decide) zi_9 t_zd9 t_zd9_ok n_zd9 rfl rfl rfl (by decide) rfl zn3_28 (fun _ h => h) rfl hin rfl (x := 17) (by decide) (t_zd9_ok 11 (by decide)) rfl rfl d_MP_init_91 (fun H locs hw => ?_)
  refine lv_iconst (v := 0) hx hb d_MP_init_94 (by decide) ?_
  refine lv_istore_n hx hb d_MP_init_95 rfl hl (by decide) rfl (fun ls hl => ?_)
  have hl : lv_has ls 2 [(1, .int 0), (0, .ref (ad 3))] := hl
  refine lv_iload_n hx hb d_MP_init_96 rfl (lv_at hl 0 rfl) ?_
  refine lv_iconst (v := 4) hx hb d_MP_init_97 (by decide) ?_
  refine lv_icmp_ge hx hb d_MP_init_98 (tgt := 121) rfl (fun hc => absurd hc (by decide)) (fun _ => ?_)
  refine lv_aload_n hx hb d_MP_init_101 rfl (lv_at hl 1 rfl) ?_
  refine zk_get (ci := 9) G hw 3 2 (by decide) zi_9 rfl rfl rfl (by decide) zn3_21 (fun _ h => h) (q := 10) rfl rfl (by decide) d_MP_init_102 ?_
  refine lv_iload_n hx hb d_MP_init_105 rfl (lv_at hl 0 rfl) ?_
  refine zk_new (ci := 10) G hw zi_10 t_zd10 t_zd10_ok rfl rfl rfl (by decide) (zh_10 ad _) zn3_9 zn3_10 zn3_11 (Nat.le_trans (by decide) hR3) (Nat.le_trans (by decide) hR4) d_MP_init_106 (fun H hw => ?_)
  refine W.widen (k := 15) (n := 6833) (by decide) (by decide) ?_
  refine lv_dup hx hb d_MP_init_109 rfl ?_
  refine lv_iconst (v := 3) hx hb d_MP_init_110 (by decide) ?_
  refine zk_call (rest := [.ref (ad 18), .int 0, .ref (ad 10)]) (o := 18) G hw [.int 3] (zk_MN_init_18 hJ had hA) (cwI 1 hts (zs_gC zn3_16) rfl rfl rfl (hts _ zn3_11) (hts _ zn3_17) (hts _ zn3_18) rfl (by decide +kernel) ⟨Nat.le_trans (by decide) hR1, Nat.le_trans (by decide) hR2⟩) rfl hl.1 (Nat.le_of_ble_eq_true rfl) d_MP_init_111 ⟨Nat.le_trans (by decide) hR3, Nat.le_trans (by decide) hR4⟩ (fun H locs hw => ?_)
  refine W.widen (k := 17) (n := 6860) (by decide) (by decide) ?_
  refine zk_aast (t := 8) (n := 4) (ci := 10) (x := 18) (i := 0) G hw 10 (by decide) (by decide) rfl rfl (by decide) rfl (by decide) rfl rfl (by decide) d_MP_init_114 (fun H locs hw => ?_)
  refine lv_iinc (v := 1) hx hb d_MP_init_115 hl (k := 0) rfl (by decide) (by decide) rfl (fun ls hl => ?_)
  have hl : lv_has ls 2 [(1, .int 1), (0, .ref (ad 3))] := hl
  refine lv_goto hx hb d_MP_init_118 (tgt := 96) rfl ?_
  refine lv_iload_n hx hb d_MP_init_96 rfl (lv_at hl 0 rfl) ?_
  refine lv_iconst (v := 4) hx hb d_MP_init_97 (by decide) ?_
  refine lv_icmp_ge hx hb d_MP_init_98 (tgt := 121) rfl (fun hc => absurd hc (by decide)) (fun _ => ?_)
  refine lv_aload_n hx hb d_MP_init_101 rfl (lv_at hl 1 rfl) ?_
  refine zk_get (ci := 9) G hw 3 2 (by decide) zi_9 rfl rfl rfl (by decide) zn3_21 (fun _ h => h) (q := 10) rfl rfl (by decide) d_MP_init_102 ?_
  refine lv_iload_n hx hb d_MP_init_105 rfl (lv_at hl 0 rfl) ?_
  refine zk_new (ci := 10) G hw zi_10 t_zd10 t_zd10_ok rfl rfl rfl (by decide) (zh_10 ad _) zn3_9 zn3_10 zn3_11 (Nat.le_trans (by decide) hR3) (Nat.le_trans (by decide) hR4) d_MP_init_106 (fun H hw => ?_)
  refine W.widen (k := 18) (n := 6863) (by decide) (by decide) ?_
  refine lv_dup hx hb d_MP_init_109 rfl ?_
  refine lv_iconst (v := 3) hx hb d_MP_init_110 (by decide) ?_
  refine zk_call (rest := [.ref (ad 21), .int 1, .ref (ad 10)]) (o := 21) G hw [.int 3] (zk_MN_init_21 hJ had hA) (cwI 1 hts (zs_gC zn3_16) rfl rfl rfl (hts _ zn3_11) (hts _ zn3_17) (hts _ zn3_18) rfl (by decide +kernel) ⟨Nat.le_trans (by decide) hR1, Nat.le_trans (by decide) hR2⟩) rfl hl.1 (Nat.le_of_ble_eq_true rfl) d_MP_init_111 ⟨Nat.le_trans (by decide) hR3, Nat.le_trans (by decide) hR4⟩ (fun H locs hw => ?_)
  refine W.widen (k := 20) (n := 6890) (by decide) (by decide) ?_
  refine zk_aast (t := 8) (n := 4) (ci := 10) (x := 21) (i := 1) G hw 10 (by decide) (by decide) rfl rfl (by decide) rfl (by decide) rfl rfl (by decide) d_MP_init_114 (fun H locs hw => ?_)
  refine lv_iinc (v := 2) hx hb d_MP_init_115 hl (k := 0) rfl (by decide) (by decide) rfl (fun ls hl => ?_)
  have hl : lv_has ls 2 [(1, .int 2), (0, .ref (ad 3))] := hl
  refine lv_goto hx hb d_MP_init_118 (tgt := 96) rfl ?_
  refine lv_iload_n hx hb d_MP_init_96 rfl (lv_at hl 0 rfl) ?_
  refine lv_iconst (v := 4) hx hb d_MP_init_97 (by decide) ?_
  refine lv_icmp_ge hx hb d_MP_init_98 (tgt := 121) rfl (fun hc => absurd hc (by decide)) (fun _ => ?_)
  refine lv_aload_n hx hb d_MP_init_101 rfl (lv_at hl 1 rfl) ?_
  refine zk_get (ci := 9) G hw 3 2 (by decide) zi_9 rfl rfl rfl (by decide) zn3_21 (fun _ h => h) (q := 10) rfl rfl (by decide) d_MP_init_102 ?_
  refine lv_iload_n hx hb d_MP_init_105 rfl (lv_at hl 0 rfl) ?_
  refine zk_new (ci := 10) G hw zi_10 t_zd10 t_zd10_ok rfl rfl rfl (by decide) (zh_10 ad _) zn3_9 zn3_10 zn3_11 (Nat.le_trans (by decide) hR3) (Nat.le_trans (by decide) hR4) d_MP_init_106 (fun H hw => ?_)
  refine W.widen (k := 21) (n := 6893) (by decide) (by decide) ?_
  refine lv_dup hx hb d_MP_init_109 rfl ?_
  refine lv_iconst (v := 3) hx hb d_MP_init_110 (by decide) ?_
  refine zk_call (rest := [.ref (ad 24), .int 2, .ref (ad 10)]) (o := 24) G hw [.int 3] (zk_MN_init_24 hJ had hA) (cwI 1 hts (zs_gC zn3_16) rfl rfl rfl (hts _ zn3_11) (hts _ zn3_17) (hts _ zn3_18) rfl (by decide +kernel) ⟨Nat.le_trans (by decide) hR1, Nat.le_trans (by decide) hR2⟩) rfl hl.1 (Nat.le_of_ble_eq_true rfl) d_MP_init_111 ⟨Nat.le_trans (by decide) hR3, Nat.le_trans (by decide) hR4⟩ (fun H locs hw => ?_)
  refine W.widen (k := 23) (n := 6920) (by decide) (by decide) ?_
  refine zk_aast (t := 8) (n := 4) (ci := 10) (x := 24) (i := 2) G hw 10 (by decide) (by decide) rfl rfl (by decide) rfl (by decide) rfl rfl (by decide) d_MP_init_114 (fun H locs hw => ?_)
  refine lv_iinc (v := 3) hx hb d_MP_init_115 hl (k := 0) rfl (by decide) (by decide) rfl (fun ls hl => ?_)
  have hl : lv_has ls 2 [(1, .int 3), (0, .ref (ad 3))] := hl
  refine lv_goto hx hb d_MP_init_118 (tgt := 96) rfl ?_
  refine lv_iload_n hx hb d_MP_init_96 rfl (lv_at hl 0 rfl) ?_
  refine lv_iconst (v := 4) hx hb d_MP_init_97 (by decide) ?_
  refine lv_icmp_ge hx hb d_MP_init_98 (tgt := 121) rfl (fun hc => absurd hc (by decide)) (fun _ => ?_)
  refine lv_aload_n hx hb d_MP_init_101 rfl (lv_at hl 1 rfl) ?_
  refine zk_get (ci := 9) G hw 3 2 (by decide) zi_9 rfl rfl rfl (by decide) zn3_21 (fun _ h => h) (q := 10) rfl rfl (by decide) d_MP_init_102 ?_
  refine lv_iload_n hx hb d_MP_init_105 rfl (lv_at hl 0 rfl) ?_
  refine zk_new (ci := 10) G hw zi_10 t_zd10 t_zd10_ok rfl rfl rfl (by decide) (zh_10 ad _) zn3_9 zn3_10 zn3_11 (Nat.le_trans (by decide) hR3) (Nat.le_trans (by decide) hR4) d_MP_init_106 (fun H hw => ?_)
  refine W.widen (k := 24) (n := 6923) (by decide) (by decide) ?_
  refine lv_dup hx hb d_MP_init_109 rfl ?_
  refine lv_iconst (v := 3) hx hb d_MP_init_110 (by decide) ?_
  refine zk_call (rest := [.ref (ad 27), .int 3, .ref (ad 10)]) (o := 27) G hw [.int 3] (zk_MN_init_27 hJ had hA) (cwI 1 hts (zs_gC zn3_16) rfl rfl rfl (hts _ zn3_11) (hts _ zn3_17) (hts _ zn3_18) rfl (by decide +kernel) ⟨Nat.le_trans (by decide) hR1, Nat.le_trans (by decide) hR2⟩) rfl hl.1 (Nat.le_of_ble_eq_true rfl) d_MP_init_111 ⟨Nat.le_trans (by decide) hR3, Nat.le_trans (by decide) hR4⟩ (fun H locs hw => ?_)
  refine W.widen (k := 26) (n := 6950) (by decide) (by decide) ?_
  refine zk_aast (t := 8) (n := 4) (ci := 10) (x := 27) (i := 3) G hw 10 (by decide) (by decide) rfl rfl (by decide) rfl (by decide) rfl rfl (by decide) d_MP_init_114 (fun H locs hw => ?_)
  refine lv_iinc (v := 4) hx hb d_MP_init_115 hl (k := 0) rfl (by decide) (by decide) rfl (fun ls hl => ?_)
  have hl : lv_has ls 2 [(1, .int 4), (0, .ref (ad 3))] := hl
  refine lv_goto hx hb d_MP_init_118 (tgt := 96) rfl ?_
  refine lv_iload_n hx hb d_MP_init_96 rfl (lv_at hl 0 rfl) ?_
  refine lv_iconst (v := 4) hx hb d_MP_init_97 (by decide) ?_
  refine lv_icmp_ge hx hb d_MP_init_98 (tgt := 121) rfl (fun _ => ?_) (fun hc => absurd hc (by decide))
  exact zk_vret G hw hr hlocks hQ d_MP_init_121
def zk_f_MN_init_31 (σ : zs_S) : zs_S := (zs_wr (zs_wr σ 31 0 32) 31 1 33)
set_option maxHeartbeats 8000000 in
set_option maxRecDepth 100000 in
theorem zk_MN_init_31 {l : Launch} {D : va_G} {cA : Nat → ClassId} {ad : Nat → Nat} {A : Nat → Prop} {b : Nat} {σ : zs_S} (hJ : zs_J ad) (had : ∀ o, 1 ≤ o → o ≤ zd_M 3 → ad o = b + (o - 1)) (hA : ∀ q, b ≤ q → A q) : Met l y_MN_init (.code y_MN_init prog_14_method_1_code 2 none :: zd_ww) { frames := 1, cells := 2, slots := 72, locals := 30 } (va_Pc [.ref (ad 31), .int 8] (zk_U 3 D cA ad A b 31 σ)) (zk_Q 3 D cA ad A b 33 (zk_f_MN_init_31 σ)) 2 72 A := by
  refine Met.ofW (cc := prog_14_method_1_code) (maxL := 2) (ret := none) (by decide) rfl ?_
  intro p e s m args below meth c s₁ B hml hv
  obtain ⟨hargs, hP, hK, hD, hZ, hz, hd, hO⟩ := hv
  have G : zk_G 3 p s m args c prog_14_method_1_code 2 "ScheduleCheckModel$Names" D cA ad A b := ⟨⟨B.exec, B.bytes, hml, findClass_of_methodNamed B.named, fun w h => atoms_spec B.pre w (List.mem_cons_of_mem _ h)⟩, hK, hJ, hZ, had, hA, hO⟩
  have hw : zk_I 3 D cA ad A s b 31 σ s.heap [] := ⟨hP, hD, va_S.rf, hz, hd⟩
  have hx := G.1.1
  have hb := G.1.2.1
  have hown := G.1.2.2.2.1
  have hts := G.1.2.2.2.2
  have hr := B.returns
  have hlocks := B.notSynchronized
  have hin : meth.name = "<init>" := (name_of_methodNamed B.named B.method).1
  have he : entryFrame m args 2 = F0 m 0 ((lg_sl [.ref (ad 31), .int 8] ++ List.replicate (2 - (lg_sl [.ref (ad 31), .int 8]).length) Slot.unset).toArray) [] := by rw [hargs]; exact lg_entry_eq m _ 2
  have hl := lv_entry [.ref (ad 31), .int 8] (n := 2) (Nat.le_of_ble_eq_true rfl)
  rw [he]
  generalize (lg_sl [.ref (ad 31), .int 8] ++ List.replicate (2 - (lg_sl [.ref (ad 31), .int 8]).length) Slot.unset).toArray = ls at hl
  have hl : lv_has ls 2 [(0, .ref (ad 31)), (1, .int 8)] := hl
  obtain ⟨RR, hR⟩ : ∃ z, z = (headSpec (.code y_MN_init prog_14_method_1_code 2 none :: zd_ww) { frames := 1, cells := 2, slots := 72, locals := 30 }).room := ⟨_, rfl⟩
  rw [← hR]
  obtain ⟨QQ, hQ⟩ : ∃ z, z = MQ below (zk_Q 3 D cA ad A b 33 (zk_f_MN_init_31 σ)) args s 2 72 A := ⟨_, rfl⟩
  rw [← hQ]
  have hR1 : 1 ≤ RR.frames := by rw [hR]; exact Nat.le_refl _
  have hR2 : 30 ≤ RR.locals := by rw [hR]; exact Nat.le_refl _
  have hR3 : 2 ≤ RR.cells := by rw [hR]; exact Nat.le_refl _
  have hR4 : 72 ≤ RR.slots := by rw [hR]; exact Nat.le_refl _
  generalize s.heap = H at hw ⊢
  generalize ([] : List Loc) = locs at hw ⊢
  refine lv_aload_n hx hb d_MN_init_0 rfl (lv_at hl 0 rfl) ?_
  refine W.objInit hx hb hown (hts _ zn3_12) (hts _ zn3_1) (hts _ zn3_2) rfl (by rw [hml]; exact hl.1) rfl d_MN_init_1 (Nat.le_trans (by decide) hR1) (Nat.le_trans (Nat.le_of_ble_eq_true rfl) hR2) ?_
  refine W.eq (g2 := F0 m 4 ls []) rfl ?_
  refine lv_aload_n hx hb d_MN_init_4 rfl (lv_at hl 0 rfl) ?_
  refine lv_iload_n hx hb d_MN_init_5 rfl (lv_at hl 1 rfl) ?_
  refine lv_bipush (v := 8) hx hb d_MN_init_6 (by decide) ?_
  refine lv_imul hx hb d_MN_init_8 ?_
  refine zk_newa (atype := .byte) (t := 1) (N := 64) (n := 8 * 8) G hw zn3_3 rfl (by decide) rfl (by decide) (by decide) (by decide) (by decide) (Nat.le_trans (by decide) hR3) (Nat.le_trans (by decide) hR4) d_MN_init_9 (fun H hw => ?_)
  refine W.widen (k := 1) (n := 64) (by decide) (by decide) ?_
  refine zk_putF (ci := 10) G hw 31 0 (by decide) (by decide) zi_10 t_zd10 t_zd10_ok n_zd10 rfl rfl rfl (by decide) rfl zn3_13 (fun _ h => h) rfl hin rfl (x := 32) (by decide) (t_zd10_ok 0 (by decide)) rfl rfl d_MN_init_11 (fun H locs hw => ?_)
  refine lv_aload_n hx hb d_MN_init_14 rfl (lv_at hl 0 rfl) ?_
  refine lv_iload_n hx hb d_MN_init_15 rfl (lv_at hl 1 rfl) ?_
  refine zk_newa (atype := .int) (t := 0) (N := 8) (n := 8) G hw zn3_14 rfl (by decide) rfl (by decide) (by decide) (by decide) (by decide) (Nat.le_trans (by decide) hR3) (Nat.le_trans (by decide) hR4) d_MN_init_16 (fun H hw => ?_)
  refine W.widen (k := 2) (n := 72) (by decide) (by decide) ?_
  refine zk_putF (ci := 10) G hw 31 1 (by decide) (by decide) zi_10 t_zd10 t_zd10_ok n_zd10 rfl rfl rfl (by decide) rfl zn3_15 (fun _ h => h) rfl hin rfl (x := 33) (by decide) (t_zd10_ok 1 (by decide)) rfl rfl d_MN_init_18 (fun H locs hw => ?_)
  exact zk_vret G hw hr hlocks hQ d_MN_init_21
def zk_f_MN_init_34 (σ : zs_S) : zs_S := (zs_wr (zs_wr σ 34 0 35) 34 1 36)
set_option maxHeartbeats 8000000 in
set_option maxRecDepth 100000 in
theorem zk_MN_init_34 {l : Launch} {D : va_G} {cA : Nat → ClassId} {ad : Nat → Nat} {A : Nat → Prop} {b : Nat} {σ : zs_S} (hJ : zs_J ad) (had : ∀ o, 1 ≤ o → o ≤ zd_M 3 → ad o = b + (o - 1)) (hA : ∀ q, b ≤ q → A q) : Met l y_MN_init (.code y_MN_init prog_14_method_1_code 2 none :: zd_ww) { frames := 1, cells := 2, slots := 36, locals := 30 } (va_Pc [.ref (ad 34), .int 4] (zk_U 3 D cA ad A b 34 σ)) (zk_Q 3 D cA ad A b 36 (zk_f_MN_init_34 σ)) 2 36 A := by
  refine Met.ofW (cc := prog_14_method_1_code) (maxL := 2) (ret := none) (by decide) rfl ?_
  intro p e s m args below meth c s₁ B hml hv
  obtain ⟨hargs, hP, hK, hD, hZ, hz, hd, hO⟩ := hv
  have G : zk_G 3 p s m args c prog_14_method_1_code 2 "ScheduleCheckModel$Names" D cA ad A b := ⟨⟨B.exec, B.bytes, hml, findClass_of_methodNamed B.named, fun w h => atoms_spec B.pre w (List.mem_cons_of_mem _ h)⟩, hK, hJ, hZ, had, hA, hO⟩
  have hw : zk_I 3 D cA ad A s b 34 σ s.heap [] := ⟨hP, hD, va_S.rf, hz, hd⟩
  have hx := G.1.1
  have hb := G.1.2.1
  have hown := G.1.2.2.2.1
  have hts := G.1.2.2.2.2
  have hr := B.returns
  have hlocks := B.notSynchronized
  have hin : meth.name = "<init>" := (name_of_methodNamed B.named B.method).1
  have he : entryFrame m args 2 = F0 m 0 ((lg_sl [.ref (ad 34), .int 4] ++ List.replicate (2 - (lg_sl [.ref (ad 34), .int 4]).length) Slot.unset).toArray) [] := by rw [hargs]; exact lg_entry_eq m _ 2
  have hl := lv_entry [.ref (ad 34), .int 4] (n := 2) (Nat.le_of_ble_eq_true rfl)
  rw [he]
  generalize (lg_sl [.ref (ad 34), .int 4] ++ List.replicate (2 - (lg_sl [.ref (ad 34), .int 4]).length) Slot.unset).toArray = ls at hl
  have hl : lv_has ls 2 [(0, .ref (ad 34)), (1, .int 4)] := hl
  obtain ⟨RR, hR⟩ : ∃ z, z = (headSpec (.code y_MN_init prog_14_method_1_code 2 none :: zd_ww) { frames := 1, cells := 2, slots := 36, locals := 30 }).room := ⟨_, rfl⟩
  rw [← hR]
  obtain ⟨QQ, hQ⟩ : ∃ z, z = MQ below (zk_Q 3 D cA ad A b 36 (zk_f_MN_init_34 σ)) args s 2 36 A := ⟨_, rfl⟩
  rw [← hQ]
  have hR1 : 1 ≤ RR.frames := by rw [hR]; exact Nat.le_refl _
  have hR2 : 30 ≤ RR.locals := by rw [hR]; exact Nat.le_refl _
  have hR3 : 2 ≤ RR.cells := by rw [hR]; exact Nat.le_refl _
  have hR4 : 36 ≤ RR.slots := by rw [hR]; exact Nat.le_refl _
  generalize s.heap = H at hw ⊢
  generalize ([] : List Loc) = locs at hw ⊢
  refine lv_aload_n hx hb d_MN_init_0 rfl (lv_at hl 0 rfl) ?_
  refine W.objInit hx hb hown (hts _ zn3_12) (hts _ zn3_1) (hts _ zn3_2) rfl (by rw [hml]; exact hl.1) rfl d_MN_init_1 (Nat.le_trans (by decide) hR1) (Nat.le_trans (Nat.le_of_ble_eq_true rfl) hR2) ?_
  refine W.eq (g2 := F0 m 4 ls []) rfl ?_
  refine lv_aload_n hx hb d_MN_init_4 rfl (lv_at hl 0 rfl) ?_
  refine lv_iload_n hx hb d_MN_init_5 rfl (lv_at hl 1 rfl) ?_
  refine lv_bipush (v := 8) hx hb d_MN_init_6 (by decide) ?_
  refine lv_imul hx hb d_MN_init_8 ?_
  refine zk_newa (atype := .byte) (t := 1) (N := 32) (n := 4 * 8) G hw zn3_3 rfl (by decide) rfl (by decide) (by decide) (by decide) (by decide) (Nat.le_trans (by decide) hR3) (Nat.le_trans (by decide) hR4) d_MN_init_9 (fun H hw => ?_)
  refine W.widen (k := 1) (n := 32) (by decide) (by decide) ?_
  refine zk_putF (ci := 10) G hw 34 0 (by decide) (by decide) zi_10 t_zd10 t_zd10_ok n_zd10 rfl rfl rfl (by decide) rfl zn3_13 (fun _ h => h) rfl hin rfl (x := 35) (by decide) (t_zd10_ok 0 (by decide)) rfl rfl d_MN_init_11 (fun H locs hw => ?_)
  refine lv_aload_n hx hb d_MN_init_14 rfl (lv_at hl 0 rfl) ?_
  refine lv_iload_n hx hb d_MN_init_15 rfl (lv_at hl 1 rfl) ?_
  refine zk_newa (atype := .int) (t := 0) (N := 4) (n := 4) G hw zn3_14 rfl (by decide) rfl (by decide) (by decide) (by decide) (by decide) (Nat.le_trans (by decide) hR3) (Nat.le_trans (by decide) hR4) d_MN_init_16 (fun H hw => ?_)
  refine W.widen (k := 2) (n := 36) (by decide) (by decide) ?_
  refine zk_putF (ci := 10) G hw 34 1 (by decide) (by decide) zi_10 t_zd10 t_zd10_ok n_zd10 rfl rfl rfl (by decide) rfl zn3_15 (fun _ h => h) rfl hin rfl (x := 36) (by decide) (t_zd10_ok 1 (by decide)) rfl rfl d_MN_init_18 (fun H locs hw => ?_)
  exact zk_vret G hw hr hlocks hQ d_MN_init_21
def zk_f_MN_init_45 (σ : zs_S) : zs_S := (zs_wr (zs_wr σ 45 0 46) 45 1 47)
set_option maxHeartbeats 8000000 in
set_option maxRecDepth 100000 in
theorem zk_MN_init_45 {l : Launch} {D : va_G} {cA : Nat → ClassId} {ad : Nat → Nat} {A : Nat → Prop} {b : Nat} {σ : zs_S} (hJ : zs_J ad) (had : ∀ o, 1 ≤ o → o ≤ zd_M 3 → ad o = b + (o - 1)) (hA : ∀ q, b ≤ q → A q) : Met l y_MN_init (.code y_MN_init prog_14_method_1_code 2 none :: zd_ww) { frames := 1, cells := 2, slots := 27, locals := 30 } (va_Pc [.ref (ad 45), .int 3] (zk_U 3 D cA ad A b 45 σ)) (zk_Q 3 D cA ad A b 47 (zk_f_MN_init_45 σ)) 2 27 A := by
  refine Met.ofW (cc := prog_14_method_1_code) (maxL := 2) (ret := none) (by decide) rfl ?_
  intro p e s m args below meth c s₁ B hml hv
  obtain ⟨hargs, hP, hK, hD, hZ, hz, hd, hO⟩ := hv
  have G : zk_G 3 p s m args c prog_14_method_1_code 2 "ScheduleCheckModel$Names" D cA ad A b := ⟨⟨B.exec, B.bytes, hml, findClass_of_methodNamed B.named, fun w h => atoms_spec B.pre w (List.mem_cons_of_mem _ h)⟩, hK, hJ, hZ, had, hA, hO⟩
  have hw : zk_I 3 D cA ad A s b 45 σ s.heap [] := ⟨hP, hD, va_S.rf, hz, hd⟩
  have hx := G.1.1
  have hb := G.1.2.1
  have hown := G.1.2.2.2.1
  have hts := G.1.2.2.2.2
  have hr := B.returns
  have hlocks := B.notSynchronized
  have hin : meth.name = "<init>" := (name_of_methodNamed B.named B.method).1
  have he : entryFrame m args 2 = F0 m 0 ((lg_sl [.ref (ad 45), .int 3] ++ List.replicate (2 - (lg_sl [.ref (ad 45), .int 3]).length) Slot.unset).toArray) [] := by rw [hargs]; exact lg_entry_eq m _ 2
  have hl := lv_entry [.ref (ad 45), .int 3] (n := 2) (Nat.le_of_ble_eq_true rfl)
  rw [he]
  generalize (lg_sl [.ref (ad 45), .int 3] ++ List.replicate (2 - (lg_sl [.ref (ad 45), .int 3]).length) Slot.unset).toArray = ls at hl
  have hl : lv_has ls 2 [(0, .ref (ad 45)), (1, .int 3)] := hl
  obtain ⟨RR, hR⟩ : ∃ z, z = (headSpec (.code y_MN_init prog_14_method_1_code 2 none :: zd_ww) { frames := 1, cells := 2, slots := 27, locals := 30 }).room := ⟨_, rfl⟩
  rw [← hR]
  obtain ⟨QQ, hQ⟩ : ∃ z, z = MQ below (zk_Q 3 D cA ad A b 47 (zk_f_MN_init_45 σ)) args s 2 27 A := ⟨_, rfl⟩
  rw [← hQ]
  have hR1 : 1 ≤ RR.frames := by rw [hR]; exact Nat.le_refl _
  have hR2 : 30 ≤ RR.locals := by rw [hR]; exact Nat.le_refl _
  have hR3 : 2 ≤ RR.cells := by rw [hR]; exact Nat.le_refl _
  have hR4 : 27 ≤ RR.slots := by rw [hR]; exact Nat.le_refl _
  generalize s.heap = H at hw ⊢
  generalize ([] : List Loc) = locs at hw ⊢
  refine lv_aload_n hx hb d_MN_init_0 rfl (lv_at hl 0 rfl) ?_
  refine W.objInit hx hb hown (hts _ zn3_12) (hts _ zn3_1) (hts _ zn3_2) rfl (by rw [hml]; exact hl.1) rfl d_MN_init_1 (Nat.le_trans (by decide) hR1) (Nat.le_trans (Nat.le_of_ble_eq_true rfl) hR2) ?_
  refine W.eq (g2 := F0 m 4 ls []) rfl ?_
  refine lv_aload_n hx hb d_MN_init_4 rfl (lv_at hl 0 rfl) ?_
  refine lv_iload_n hx hb d_MN_init_5 rfl (lv_at hl 1 rfl) ?_
  refine lv_bipush (v := 8) hx hb d_MN_init_6 (by decide) ?_
  refine lv_imul hx hb d_MN_init_8 ?_
  refine zk_newa (atype := .byte) (t := 1) (N := 24) (n := 3 * 8) G hw zn3_3 rfl (by decide) rfl (by decide) (by decide) (by decide) (by decide) (Nat.le_trans (by decide) hR3) (Nat.le_trans (by decide) hR4) d_MN_init_9 (fun H hw => ?_)
  refine W.widen (k := 1) (n := 24) (by decide) (by decide) ?_
  refine zk_putF (ci := 10) G hw 45 0 (by decide) (by decide) zi_10 t_zd10 t_zd10_ok n_zd10 rfl rfl rfl (by decide) rfl zn3_13 (fun _ h => h) rfl hin rfl (x := 46) (by decide) (t_zd10_ok 0 (by decide)) rfl rfl d_MN_init_11 (fun H locs hw => ?_)
  refine lv_aload_n hx hb d_MN_init_14 rfl (lv_at hl 0 rfl) ?_
  refine lv_iload_n hx hb d_MN_init_15 rfl (lv_at hl 1 rfl) ?_
  refine zk_newa (atype := .int) (t := 0) (N := 3) (n := 3) G hw zn3_14 rfl (by decide) rfl (by decide) (by decide) (by decide) (by decide) (Nat.le_trans (by decide) hR3) (Nat.le_trans (by decide) hR4) d_MN_init_16 (fun H hw => ?_)
  refine W.widen (k := 2) (n := 27) (by decide) (by decide) ?_
  refine zk_putF (ci := 10) G hw 45 1 (by decide) (by decide) zi_10 t_zd10 t_zd10_ok n_zd10 rfl rfl rfl (by decide) rfl zn3_15 (fun _ h => h) rfl hin rfl (x := 47) (by decide) (t_zd10_ok 1 (by decide)) rfl rfl d_MN_init_18 (fun H locs hw => ?_)
  exact zk_vret G hw hr hlocks hQ d_MN_init_21
def zk_f_MN_init_48 (σ : zs_S) : zs_S := (zs_wr (zs_wr σ 48 0 49) 48 1 50)
set_option maxHeartbeats 8000000 in
set_option maxRecDepth 100000 in
theorem zk_MN_init_48 {l : Launch} {D : va_G} {cA : Nat → ClassId} {ad : Nat → Nat} {A : Nat → Prop} {b : Nat} {σ : zs_S} (hJ : zs_J ad) (had : ∀ o, 1 ≤ o → o ≤ zd_M 3 → ad o = b + (o - 1)) (hA : ∀ q, b ≤ q → A q) : Met l y_MN_init (.code y_MN_init prog_14_method_1_code 2 none :: zd_ww) { frames := 1, cells := 2, slots := 27, locals := 30 } (va_Pc [.ref (ad 48), .int 3] (zk_U 3 D cA ad A b 48 σ)) (zk_Q 3 D cA ad A b 50 (zk_f_MN_init_48 σ)) 2 27 A := by
  refine Met.ofW (cc := prog_14_method_1_code) (maxL := 2) (ret := none) (by decide) rfl ?_
  intro p e s m args below meth c s₁ B hml hv
  obtain ⟨hargs, hP, hK, hD, hZ, hz, hd, hO⟩ := hv
  have G : zk_G 3 p s m args c prog_14_method_1_code 2 "ScheduleCheckModel$Names" D cA ad A b := ⟨⟨B.exec, B.bytes, hml, findClass_of_methodNamed B.named, fun w h => atoms_spec B.pre w (List.mem_cons_of_mem _ h)⟩, hK, hJ, hZ, had, hA, hO⟩
  have hw : zk_I 3 D cA ad A s b 48 σ s.heap [] := ⟨hP, hD, va_S.rf, hz, hd⟩
  have hx := G.1.1
  have hb := G.1.2.1
  have hown := G.1.2.2.2.1
  have hts := G.1.2.2.2.2
  have hr := B.returns
  have hlocks := B.notSynchronized
  have hin : meth.name = "<init>" := (name_of_methodNamed B.named B.method).1
  have he : entryFrame m args 2 = F0 m 0 ((lg_sl [.ref (ad 48), .int 3] ++ List.replicate (2 - (lg_sl [.ref (ad 48), .int 3]).length) Slot.unset).toArray) [] := by rw [hargs]; exact lg_entry_eq m _ 2
  have hl := lv_entry [.ref (ad 48), .int 3] (n := 2) (Nat.le_of_ble_eq_true rfl)
  rw [he]
  generalize (lg_sl [.ref (ad 48), .int 3] ++ List.replicate (2 - (lg_sl [.ref (ad 48), .int 3]).length) Slot.unset).toArray = ls at hl
  have hl : lv_has ls 2 [(0, .ref (ad 48)), (1, .int 3)] := hl
  obtain ⟨RR, hR⟩ : ∃ z, z = (headSpec (.code y_MN_init prog_14_method_1_code 2 none :: zd_ww) { frames := 1, cells := 2, slots := 27, locals := 30 }).room := ⟨_, rfl⟩
  rw [← hR]
  obtain ⟨QQ, hQ⟩ : ∃ z, z = MQ below (zk_Q 3 D cA ad A b 50 (zk_f_MN_init_48 σ)) args s 2 27 A := ⟨_, rfl⟩
  rw [← hQ]
  have hR1 : 1 ≤ RR.frames := by rw [hR]; exact Nat.le_refl _
  have hR2 : 30 ≤ RR.locals := by rw [hR]; exact Nat.le_refl _
  have hR3 : 2 ≤ RR.cells := by rw [hR]; exact Nat.le_refl _
  have hR4 : 27 ≤ RR.slots := by rw [hR]; exact Nat.le_refl _
  generalize s.heap = H at hw ⊢
  generalize ([] : List Loc) = locs at hw ⊢
  refine lv_aload_n hx hb d_MN_init_0 rfl (lv_at hl 0 rfl) ?_
  refine W.objInit hx hb hown (hts _ zn3_12) (hts _ zn3_1) (hts _ zn3_2) rfl (by rw [hml]; exact hl.1) rfl d_MN_init_1 (Nat.le_trans (by decide) hR1) (Nat.le_trans (Nat.le_of_ble_eq_true rfl) hR2) ?_
  refine W.eq (g2 := F0 m 4 ls []) rfl ?_
  refine lv_aload_n hx hb d_MN_init_4 rfl (lv_at hl 0 rfl) ?_
  refine lv_iload_n hx hb d_MN_init_5 rfl (lv_at hl 1 rfl) ?_
  refine lv_bipush (v := 8) hx hb d_MN_init_6 (by decide) ?_
  refine lv_imul hx hb d_MN_init_8 ?_
  refine zk_newa (atype := .byte) (t := 1) (N := 24) (n := 3 * 8) G hw zn3_3 rfl (by decide) rfl (by decide) (by decide) (by decide) (by decide) (Nat.le_trans (by decide) hR3) (Nat.le_trans (by decide) hR4) d_MN_init_9 (fun H hw => ?_)
  refine W.widen (k := 1) (n := 24) (by decide) (by decide) ?_
  refine zk_putF (ci := 10) G hw 48 0 (by decide) (by decide) zi_10 t_zd10 t_zd10_ok n_zd10 rfl rfl rfl (by decide) rfl zn3_13 (fun _ h => h) rfl hin rfl (x := 49) (by decide) (t_zd10_ok 0 (by decide)) rfl rfl d_MN_init_11 (fun H locs hw => ?_)
  refine lv_aload_n hx hb d_MN_init_14 rfl (lv_at hl 0 rfl) ?_
  refine lv_iload_n hx hb d_MN_init_15 rfl (lv_at hl 1 rfl) ?_
  refine zk_newa (atype := .int) (t := 0) (N := 3) (n := 3) G hw zn3_14 rfl (by decide) rfl (by decide) (by decide) (by decide) (by decide) (Nat.le_trans (by decide) hR3) (Nat.le_trans (by decide) hR4) d_MN_init_16 (fun H hw => ?_)
  refine W.widen (k := 2) (n := 27) (by decide) (by decide) ?_
  refine zk_putF (ci := 10) G hw 48 1 (by decide) (by decide) zi_10 t_zd10 t_zd10_ok n_zd10 rfl rfl rfl (by decide) rfl zn3_15 (fun _ h => h) rfl hin rfl (x := 50) (by decide) (t_zd10_ok 1 (by decide)) rfl rfl d_MN_init_18 (fun H locs hw => ?_)
  exact zk_vret G hw hr hlocks hQ d_MN_init_21
def zk_f_MN_init_51 (σ : zs_S) : zs_S := (zs_wr (zs_wr σ 51 0 52) 51 1 53)
set_option maxHeartbeats 8000000 in
set_option maxRecDepth 100000 in
theorem zk_MN_init_51 {l : Launch} {D : va_G} {cA : Nat → ClassId} {ad : Nat → Nat} {A : Nat → Prop} {b : Nat} {σ : zs_S} (hJ : zs_J ad) (had : ∀ o, 1 ≤ o → o ≤ zd_M 3 → ad o = b + (o - 1)) (hA : ∀ q, b ≤ q → A q) : Met l y_MN_init (.code y_MN_init prog_14_method_1_code 2 none :: zd_ww) { frames := 1, cells := 2, slots := 27, locals := 30 } (va_Pc [.ref (ad 51), .int 3] (zk_U 3 D cA ad A b 51 σ)) (zk_Q 3 D cA ad A b 53 (zk_f_MN_init_51 σ)) 2 27 A := by
  refine Met.ofW (cc := prog_14_method_1_code) (maxL := 2) (ret := none) (by decide) rfl ?_
  intro p e s m args below meth c s₁ B hml hv
  obtain ⟨hargs, hP, hK, hD, hZ, hz, hd, hO⟩ := hv
  have G : zk_G 3 p s m args c prog_14_method_1_code 2 "ScheduleCheckModel$Names" D cA ad A b := ⟨⟨B.exec, B.bytes, hml, findClass_of_methodNamed B.named, fun w h => atoms_spec B.pre w (List.mem_cons_of_mem _ h)⟩, hK, hJ, hZ, had, hA, hO⟩
  have hw : zk_I 3 D cA ad A s b 51 σ s.heap [] := ⟨hP, hD, va_S.rf, hz, hd⟩
  have hx := G.1.1
  have hb := G.1.2.1
  have hown := G.1.2.2.2.1
  have hts := G.1.2.2.2.2
  have hr := B.returns
  have hlocks := B.notSynchronized
  have hin : meth.name = "<init>" := (name_of_methodNamed B.named B.method).1
  have he : entryFrame m args 2 = F0 m 0 ((lg_sl [.ref (ad 51), .int 3] ++ List.replicate (2 - (lg_sl [.ref (ad 51), .int 3]).length) Slot.unset).toArray) [] := by rw [hargs]; exact lg_entry_eq m _ 2
  have hl := lv_entry [.ref (ad 51), .int 3] (n := 2) (Nat.le_of_ble_eq_true rfl)
  rw [he]
  generalize (lg_sl [.ref (ad 51), .int 3] ++ List.replicate (2 - (lg_sl [.ref (ad 51), .int 3]).length) Slot.unset).toArray = ls at hl
  have hl : lv_has ls 2 [(0, .ref (ad 51)), (1, .int 3)] := hl
  obtain ⟨RR, hR⟩ : ∃ z, z = (headSpec (.code y_MN_init prog_14_method_1_code 2 none :: zd_ww) { frames := 1, cells := 2, slots := 27, locals := 30 }).room := ⟨_, rfl⟩
  rw [← hR]
  obtain ⟨QQ, hQ⟩ : ∃ z, z = MQ below (zk_Q 3 D cA ad A b 53 (zk_f_MN_init_51 σ)) args s 2 27 A := ⟨_, rfl⟩
  rw [← hQ]
  have hR1 : 1 ≤ RR.frames := by rw [hR]; exact Nat.le_refl _
  have hR2 : 30 ≤ RR.locals := by rw [hR]; exact Nat.le_refl _
  have hR3 : 2 ≤ RR.cells := by rw [hR]; exact Nat.le_refl _
  have hR4 : 27 ≤ RR.slots := by rw [hR]; exact Nat.le_refl _
  generalize s.heap = H at hw ⊢
  generalize ([] : List Loc) = locs at hw ⊢
  refine lv_aload_n hx hb d_MN_init_0 rfl (lv_at hl 0 rfl) ?_
  refine W.objInit hx hb hown (hts _ zn3_12) (hts _ zn3_1) (hts _ zn3_2) rfl (by rw [hml]; exact hl.1) rfl d_MN_init_1 (Nat.le_trans (by decide) hR1) (Nat.le_trans (Nat.le_of_ble_eq_true rfl) hR2) ?_
  refine W.eq (g2 := F0 m 4 ls []) rfl ?_
  refine lv_aload_n hx hb d_MN_init_4 rfl (lv_at hl 0 rfl) ?_
  refine lv_iload_n hx hb d_MN_init_5 rfl (lv_at hl 1 rfl) ?_
  refine lv_bipush (v := 8) hx hb d_MN_init_6 (by decide) ?_
  refine lv_imul hx hb d_MN_init_8 ?_
  refine zk_newa (atype := .byte) (t := 1) (N := 24) (n := 3 * 8) G hw zn3_3 rfl (by decide) rfl (by decide) (by decide) (by decide) (by decide) (Nat.le_trans (by decide) hR3) (Nat.le_trans (by decide) hR4) d_MN_init_9 (fun H hw => ?_)
  refine W.widen (k := 1) (n := 24) (by decide) (by decide) ?_
  refine zk_putF (ci := 10) G hw 51 0 (by decide) (by decide) zi_10 t_zd10 t_zd10_ok n_zd10 rfl rfl rfl (by decide) rfl zn3_13 (fun _ h => h) rfl hin rfl (x := 52) (by decide) (t_zd10_ok 0 (by decide)) rfl rfl d_MN_init_11 (fun H locs hw => ?_)
  refine lv_aload_n hx hb d_MN_init_14 rfl (lv_at hl 0 rfl) ?_
  refine lv_iload_n hx hb d_MN_init_15 rfl (lv_at hl 1 rfl) ?_
  refine zk_newa (atype := .int) (t := 0) (N := 3) (n := 3) G hw zn3_14 rfl (by decide) rfl (by decide) (by decide) (by decide) (by decide) (Nat.le_trans (by decide) hR3) (Nat.le_trans (by decide) hR4) d_MN_init_16 (fun H hw => ?_)
  refine W.widen (k := 2) (n := 27) (by decide) (by decide) ?_
  refine zk_putF (ci := 10) G hw 51 1 (by decide) (by decide) zi_10 t_zd10 t_zd10_ok n_zd10 rfl rfl rfl (by decide) rfl zn3_15 (fun _ h => h) rfl hin rfl (x := 53) (by decide) (t_zd10_ok 1 (by decide)) rfl rfl d_MN_init_18 (fun H locs hw => ?_)
  exact zk_vret G hw hr hlocks hQ d_MN_init_21
def zk_f_MN_init_54 (σ : zs_S) : zs_S := (zs_wr (zs_wr σ 54 0 55) 54 1 56)
set_option maxHeartbeats 8000000 in
set_option maxRecDepth 100000 in
theorem zk_MN_init_54 {l : Launch} {D : va_G} {cA : Nat → ClassId} {ad : Nat → Nat} {A : Nat → Prop} {b : Nat} {σ : zs_S} (hJ : zs_J ad) (had : ∀ o, 1 ≤ o → o ≤ zd_M 3 → ad o = b + (o - 1)) (hA : ∀ q, b ≤ q → A q) : Met l y_MN_init (.code y_MN_init prog_14_method_1_code 2 none :: zd_ww) { frames := 1, cells := 2, slots := 27, locals := 30 } (va_Pc [.ref (ad 54), .int 3] (zk_U 3 D cA ad A b 54 σ)) (zk_Q 3 D cA ad A b 56 (zk_f_MN_init_54 σ)) 2 27 A := by
  refine Met.ofW (cc := prog_14_method_1_code) (maxL := 2) (ret := none) (by decide) rfl ?_
  intro p e s m args below meth c s₁ B hml hv
  obtain ⟨hargs, hP, hK, hD, hZ, hz, hd, hO⟩ := hv
  have G : zk_G 3 p s m args c prog_14_method_1_code 2 "ScheduleCheckModel$Names" D cA ad A b := ⟨⟨B.exec, B.bytes, hml, findClass_of_methodNamed B.named, fun w h => atoms_spec B.pre w (List.mem_cons_of_mem _ h)⟩, hK, hJ, hZ, had, hA, hO⟩
  have hw : zk_I 3 D cA ad A s b 54 σ s.heap [] := ⟨hP, hD, va_S.rf, hz, hd⟩
  have hx := G.1.1
  have hb := G.1.2.1
  have hown := G.1.2.2.2.1
  have hts := G.1.2.2.2.2
  have hr := B.returns
  have hlocks := B.notSynchronized
  have hin : meth.name = "<init>" := (name_of_methodNamed B.named B.method).1
  have he : entryFrame m args 2 = F0 m 0 ((lg_sl [.ref (ad 54), .int 3] ++ List.replicate (2 - (lg_sl [.ref (ad 54), .int 3]).length) Slot.unset).toArray) [] := by rw [hargs]; exact lg_entry_eq m _ 2
  have hl := lv_entry [.ref (ad 54), .int 3] (n := 2) (Nat.le_of_ble_eq_true rfl)
  rw [he]
  generalize (lg_sl [.ref (ad 54), .int 3] ++ List.replicate (2 - (lg_sl [.ref (ad 54), .int 3]).length) Slot.unset).toArray = ls at hl
  have hl : lv_has ls 2 [(0, .ref (ad 54)), (1, .int 3)] := hl
  obtain ⟨RR, hR⟩ : ∃ z, z = (headSpec (.code y_MN_init prog_14_method_1_code 2 none :: zd_ww) { frames := 1, cells := 2, slots := 27, locals := 30 }).room := ⟨_, rfl⟩
  rw [← hR]
  obtain ⟨QQ, hQ⟩ : ∃ z, z = MQ below (zk_Q 3 D cA ad A b 56 (zk_f_MN_init_54 σ)) args s 2 27 A := ⟨_, rfl⟩
  rw [← hQ]
  have hR1 : 1 ≤ RR.frames := by rw [hR]; exact Nat.le_refl _
  have hR2 : 30 ≤ RR.locals := by rw [hR]; exact Nat.le_refl _
  have hR3 : 2 ≤ RR.cells := by rw [hR]; exact Nat.le_refl _
  have hR4 : 27 ≤ RR.slots := by rw [hR]; exact Nat.le_refl _
  generalize s.heap = H at hw ⊢
  generalize ([] : List Loc) = locs at hw ⊢
  refine lv_aload_n hx hb d_MN_init_0 rfl (lv_at hl 0 rfl) ?_
  refine W.objInit hx hb hown (hts _ zn3_12) (hts _ zn3_1) (hts _ zn3_2) rfl (by rw [hml]; exact hl.1) rfl d_MN_init_1 (Nat.le_trans (by decide) hR1) (Nat.le_trans (Nat.le_of_ble_eq_true rfl) hR2) ?_
  refine W.eq (g2 := F0 m 4 ls []) rfl ?_
  refine lv_aload_n hx hb d_MN_init_4 rfl (lv_at hl 0 rfl) ?_
  refine lv_iload_n hx hb d_MN_init_5 rfl (lv_at hl 1 rfl) ?_
  refine lv_bipush (v := 8) hx hb d_MN_init_6 (by decide) ?_
  refine lv_imul hx hb d_MN_init_8 ?_
  refine zk_newa (atype := .byte) (t := 1) (N := 24) (n := 3 * 8) G hw zn3_3 rfl (by decide) rfl (by decide) (by decide) (by decide) (by decide) (Nat.le_trans (by decide) hR3) (Nat.le_trans (by decide) hR4) d_MN_init_9 (fun H hw => ?_)
  refine W.widen (k := 1) (n := 24) (by decide) (by decide) ?_
  refine zk_putF (ci := 10) G hw 54 0 (by decide) (by decide) zi_10 t_zd10 t_zd10_ok n_zd10 rfl rfl rfl (by decide) rfl zn3_13 (fun _ h => h) rfl hin rfl (x := 55) (by decide) (t_zd10_ok 0 (by decide)) rfl rfl d_MN_init_11 (fun H locs hw => ?_)
  refine lv_aload_n hx hb d_MN_init_14 rfl (lv_at hl 0 rfl) ?_
  refine lv_iload_n hx hb d_MN_init_15 rfl (lv_at hl 1 rfl) ?_
  refine zk_newa (atype := .int) (t := 0) (N := 3) (n := 3) G hw zn3_14 rfl (by decide) rfl (by decide) (by decide) (by decide) (by decide) (Nat.le_trans (by decide) hR3) (Nat.le_trans (by decide) hR4) d_MN_init_16 (fun H hw => ?_)
  refine W.widen (k := 2) (n := 27) (by decide) (by decide) ?_
  refine zk_putF (ci := 10) G hw 54 1 (by decide) (by decide) zi_10 t_zd10 t_zd10_ok n_zd10 rfl rfl rfl (by decide) rfl zn3_15 (fun _ h => h) rfl hin rfl (x := 56) (by decide) (t_zd10_ok 1 (by decide)) rfl rfl d_MN_init_18 (fun H locs hw => ?_)
  exact zk_vret G hw hr hlocks hQ d_MN_init_21
def zk_f_MP_init_30 (σ : zs_S) : zs_S := (zs_wr (zk_f_MN_init_54 (zs_wr (zk_f_MN_init_51 (zs_wr (zk_f_MN_init_48 (zs_wr (zk_f_MN_init_45 (zs_wr (zs_wr (zs_wr (zs_wr (zs_wr (zs_wr (zs_wr (zs_wr (zs_wr (zk_f_MN_init_34 (zs_wr (zk_f_MN_init_31 σ) 30 0 31)) 30 1 34) 30 2 37) 30 3 38) 30 4 39) 30 7 40) 30 8 41) 30 9 42) 30 10 43) 30 11 44)) 37 (0 : Int32).toNatClampNeg 45)) 37 (1 : Int32).toNatClampNeg 48)) 37 (2 : Int32).toNatClampNeg 51)) 37 (3 : Int32).toNatClampNeg 54)
set_option maxHeartbeats 8000000 in
set_option maxRecDepth 100000 in
theorem zk_MP_init_30 {l : Launch} {D : va_G} {cA : Nat → ClassId} {ad : Nat → Nat} {A : Nat → Prop} {b : Nat} {σ : zs_S} (hJ : zs_J ad) (had : ∀ o, 1 ≤ o → o ≤ zd_M 3 → ad o = b + (o - 1)) (hA : ∀ q, b ≤ q → A q) : Met l y_MP_init (.code y_MP_init prog_15_method_1_code 2 none :: zd_ww) { frames := 2, cells := 26, slots := 6950, locals := 51 } (va_Pc [.ref (ad 30)] (zk_U 3 D cA ad A b 30 σ)) (zk_Q 3 D cA ad A b 56 (zk_f_MP_init_30 σ)) 26 6950 A := by
  refine Met.ofW (cc := prog_15_method_1_code) (maxL := 2) (ret := none) (by decide) rfl ?_
  intro p e s m args below meth c s₁ B hml hv
  obtain ⟨hargs, hP, hK, hD, hZ, hz, hd, hO⟩ := hv
  have G : zk_G 3 p s m args c prog_15_method_1_code 2 "ScheduleCheckModel$Program" D cA ad A b := ⟨⟨B.exec, B.bytes, hml, findClass_of_methodNamed B.named, fun w h => atoms_spec B.pre w (List.mem_cons_of_mem _ h)⟩, hK, hJ, hZ, had, hA, hO⟩
  have hw : zk_I 3 D cA ad A s b 30 σ s.heap [] := ⟨hP, hD, va_S.rf, hz, hd⟩
  have hx := G.1.1
  have hb := G.1.2.1
  have hown := G.1.2.2.2.1
  have hts := G.1.2.2.2.2
  have hr := B.returns
  have hlocks := B.notSynchronized
  have hin : meth.name = "<init>" := (name_of_methodNamed B.named B.method).1
  have he : entryFrame m args 2 = F0 m 0 ((lg_sl [.ref (ad 30)] ++ List.replicate (2 - (lg_sl [.ref (ad 30)]).length) Slot.unset).toArray) [] := by rw [hargs]; exact lg_entry_eq m _ 2
  have hl := lv_entry [.ref (ad 30)] (n := 2) (Nat.le_of_ble_eq_true rfl)
  rw [he]
  generalize (lg_sl [.ref (ad 30)] ++ List.replicate (2 - (lg_sl [.ref (ad 30)]).length) Slot.unset).toArray = ls at hl
  have hl : lv_has ls 2 [(0, .ref (ad 30))] := hl
  obtain ⟨RR, hR⟩ : ∃ z, z = (headSpec (.code y_MP_init prog_15_method_1_code 2 none :: zd_ww) { frames := 2, cells := 26, slots := 6950, locals := 51 }).room := ⟨_, rfl⟩
  rw [← hR]
  obtain ⟨QQ, hQ⟩ : ∃ z, z = MQ below (zk_Q 3 D cA ad A b 56 (zk_f_MP_init_30 σ)) args s 26 6950 A := ⟨_, rfl⟩
  rw [← hQ]
  have hR1 : 2 ≤ RR.frames := by rw [hR]; exact Nat.le_refl _
  have hR2 : 51 ≤ RR.locals := by rw [hR]; exact Nat.le_refl _
  have hR3 : 26 ≤ RR.cells := by rw [hR]; exact Nat.le_refl _
  have hR4 : 6950 ≤ RR.slots := by rw [hR]; exact Nat.le_refl _
  generalize s.heap = H at hw ⊢
  generalize ([] : List Loc) = locs at hw ⊢
  refine lv_aload_n hx hb d_MP_init_0 rfl (lv_at hl 0 rfl) ?_
  refine W.objInit hx hb hown (hts _ zn3_8) (hts _ zn3_1) (hts _ zn3_2) rfl (by rw [hml]; exact hl.1) rfl d_MP_init_1 (Nat.le_trans (by decide) hR1) (Nat.le_trans (Nat.le_of_ble_eq_true rfl) hR2) ?_
  refine W.eq (g2 := F0 m 4 ls []) rfl ?_
  refine lv_aload_n hx hb d_MP_init_4 rfl (lv_at hl 0 rfl) ?_
  refine zk_new (ci := 10) G hw zi_10 t_zd10 t_zd10_ok rfl rfl rfl (by decide) (zh_10 ad _) zn3_9 zn3_10 zn3_11 (Nat.le_trans (by decide) hR3) (Nat.le_trans (by decide) hR4) d_MP_init_5 (fun H hw => ?_)
  refine W.widen (k := 1) (n := 3) (by decide) (by decide) ?_
  refine lv_dup hx hb d_MP_init_8 rfl ?_
  refine lv_bipush (v := 8) hx hb d_MP_init_9 (by decide) ?_
  refine zk_call (rest := [.ref (ad 31), .ref (ad 30)]) (o := 31) G hw [.int 8] (zk_MN_init_31 hJ had hA) (cwI 1 hts (zs_gC zn3_16) rfl rfl rfl (hts _ zn3_11) (hts _ zn3_17) (hts _ zn3_18) rfl (by decide +kernel) ⟨Nat.le_trans (by decide) hR1, Nat.le_trans (by decide) hR2⟩) rfl hl.1 (Nat.le_of_ble_eq_true rfl) d_MP_init_11 ⟨Nat.le_trans (by decide) hR3, Nat.le_trans (by decide) hR4⟩ (fun H locs hw => ?_)
  refine W.widen (k := 3) (n := 75) (by decide) (by decide) ?_
  refine zk_putF (ci := 9) G hw 30 0 (by decide) (by decide) zi_9 t_zd9 t_zd9_ok n_zd9 rfl rfl rfl (by decide) rfl zn3_19 (fun _ h => h) rfl hin rfl (x := 31) (by decide) (t_zd9_ok 0 (by decide)) rfl rfl d_MP_init_14 (fun H locs hw => ?_)
  refine lv_aload_n hx hb d_MP_init_17 rfl (lv_at hl 0 rfl) ?_
  refine zk_new (ci := 10) G hw zi_10 t_zd10 t_zd10_ok rfl rfl rfl (by decide) (zh_10 ad _) zn3_9 zn3_10 zn3_11 (Nat.le_trans (by decide) hR3) (Nat.le_trans (by decide) hR4) d_MP_init_18 (fun H hw => ?_)
  refine W.widen (k := 4) (n := 78) (by decide) (by decide) ?_
  refine lv_dup hx hb d_MP_init_21 rfl ?_
  refine lv_iconst (v := 4) hx hb d_MP_init_22 (by decide) ?_
  refine zk_call (rest := [.ref (ad 34), .ref (ad 30)]) (o := 34) G hw [.int 4] (zk_MN_init_34 hJ had hA) (cwI 1 hts (zs_gC zn3_16) rfl rfl rfl (hts _ zn3_11) (hts _ zn3_17) (hts _ zn3_18) rfl (by decide +kernel) ⟨Nat.le_trans (by decide) hR1, Nat.le_trans (by decide) hR2⟩) rfl hl.1 (Nat.le_of_ble_eq_true rfl) d_MP_init_23 ⟨Nat.le_trans (by decide) hR3, Nat.le_trans (by decide) hR4⟩ (fun H locs hw => ?_)
  refine W.widen (k := 6) (n := 114) (by decide) (by decide) ?_
  refine zk_putF (ci := 9) G hw 30 1 (by decide) (by decide) zi_9 t_zd9 t_zd9_ok n_zd9 rfl rfl rfl (by decide) rfl zn3_20 (fun _ h => h) rfl hin rfl (x := 34) (by decide) (t_zd9_ok 1 (by decide)) rfl rfl d_MP_init_26 (fun H locs hw => ?_)
  refine lv_aload_n hx hb d_MP_init_29 rfl (lv_at hl 0 rfl) ?_
  refine lv_iconst (v := 4) hx hb d_MP_init_30 (by decide) ?_
  refine zk_newq (t := 8) (N := 4) (n := 4) G hw zn3_9 (G.2.2.2.2.2.2.2 rfl) rfl (by decide) rfl (by decide) (by decide) (by decide) (by decide) (Nat.le_trans (by decide) hR3) (Nat.le_trans (by decide) hR4) d_MP_init_31 (fun H hw => ?_)
  refine W.widen (k := 7) (n := 118) (by decide) (by decide) ?_
  refine zk_putF (ci := 9) G hw 30 2 (by decide) (by decide) zi_9 t_zd9 t_zd9_ok n_zd9 rfl rfl rfl (by decide) rfl zn3_21 (fun _ h => h) rfl hin rfl (x := 37) (by decide) (t_zd9_ok 2 (by decide)) rfl rfl d_MP_init_34 (fun H locs hw => ?_)
  refine lv_aload_n hx hb d_MP_init_37 rfl (lv_at hl 0 rfl) ?_
  refine lv_bipush (v := 8) hx hb d_MP_init_38 (by decide) ?_
  refine zk_newa (atype := .int) (t := 0) (N := 8) (n := 8) G hw zn3_14 rfl (by decide) rfl (by decide) (by decide) (by decide) (by decide) (Nat.le_trans (by decide) hR3) (Nat.le_trans (by decide) hR4) d_MP_init_40 (fun H hw => ?_)
  refine W.widen (k := 8) (n := 126) (by decide) (by decide) ?_
  refine zk_putF (ci := 9) G hw 30 3 (by decide) (by decide) zi_9 t_zd9 t_zd9_ok n_zd9 rfl rfl rfl (by decide) rfl zn3_22 (fun _ h => h) rfl hin rfl (x := 38) (by decide) (t_zd9_ok 3 (by decide)) rfl rfl d_MP_init_42 (fun H locs hw => ?_)
  refine lv_aload_n hx hb d_MP_init_45 rfl (lv_at hl 0 rfl) ?_
  refine lv_iconst (v := 4) hx hb d_MP_init_46 (by decide) ?_
  refine zk_newa (atype := .int) (t := 0) (N := 4) (n := 4) G hw zn3_14 rfl (by decide) rfl (by decide) (by decide) (by decide) (by decide) (Nat.le_trans (by decide) hR3) (Nat.le_trans (by decide) hR4) d_MP_init_47 (fun H hw => ?_)
  refine W.widen (k := 9) (n := 130) (by decide) (by decide) ?_
  refine zk_putF (ci := 9) G hw 30 4 (by decide) (by decide) zi_9 t_zd9 t_zd9_ok n_zd9 rfl rfl rfl (by decide) rfl zn3_23 (fun _ h => h) rfl hin rfl (x := 39) (by decide) (t_zd9_ok 4 (by decide)) rfl rfl d_MP_init_49 (fun H locs hw => ?_)
  refine lv_aload_n hx hb d_MP_init_52 rfl (lv_at hl 0 rfl) ?_
  refine lv_bipush (v := 50) hx hb d_MP_init_53 (by decide) ?_
  refine zk_newa (atype := .int) (t := 0) (N := 50) (n := 50) G hw zn3_14 rfl (by decide) rfl (by decide) (by decide) (by decide) (by decide) (Nat.le_trans (by decide) hR3) (Nat.le_trans (by decide) hR4) d_MP_init_55 (fun H hw => ?_)
  refine W.widen (k := 10) (n := 180) (by decide) (by decide) ?_
  refine zk_putF (ci := 9) G hw 30 7 (by decide) (by decide) zi_9 t_zd9 t_zd9_ok n_zd9 rfl rfl rfl (by decide) rfl zn3_24 (fun _ h => h) rfl hin rfl (x := 40) (by decide) (t_zd9_ok 7 (by decide)) rfl rfl d_MP_init_57 (fun H locs hw => ?_)
  refine lv_aload_n hx hb d_MP_init_60 rfl (lv_at hl 0 rfl) ?_
  refine lv_bipush (v := 50) hx hb d_MP_init_61 (by decide) ?_
  refine zk_newa (atype := .int) (t := 0) (N := 50) (n := 50) G hw zn3_14 rfl (by decide) rfl (by decide) (by decide) (by decide) (by decide) (Nat.le_trans (by decide) hR3) (Nat.le_trans (by decide) hR4) d_MP_init_63 (fun H hw => ?_)
  refine W.widen (k := 11) (n := 230) (by decide) (by decide) ?_
  refine zk_putF (ci := 9) G hw 30 8 (by decide) (by decide) zi_9 t_zd9 t_zd9_ok n_zd9 rfl rfl rfl (by decide) rfl zn3_25 (fun _ h => h) rfl hin rfl (x := 41) (by decide) (t_zd9_ok 8 (by decide)) rfl rfl d_MP_init_65 (fun H locs hw => ?_)
  refine lv_aload_n hx hb d_MP_init_68 rfl (lv_at hl 0 rfl) ?_
  refine lv_bipush (v := 50) hx hb d_MP_init_69 (by decide) ?_
  refine zk_newa (atype := .int) (t := 0) (N := 50) (n := 50) G hw zn3_14 rfl (by decide) rfl (by decide) (by decide) (by decide) (by decide) (Nat.le_trans (by decide) hR3) (Nat.le_trans (by decide) hR4) d_MP_init_71 (fun H hw => ?_)
  refine W.widen (k := 12) (n := 280) (by decide) (by decide) ?_
  refine zk_putF (ci := 9) G hw 30 9 (by decide) (by decide) zi_9 t_zd9 t_zd9_ok n_zd9 rfl rfl rfl (by decide) rfl zn3_26 (fun _ h => h) rfl hin rfl (x := 42) (by decide) (t_zd9_ok 9 (by decide)) rfl rfl d_MP_init_73 (fun H locs hw => ?_)
  refine lv_aload_n hx hb d_MP_init_76 rfl (lv_at hl 0 rfl) ?_
  refine lv_sipush (v := 150) hx hb d_MP_init_77 (by decide) ?_
  refine zk_newa (atype := .int) (t := 0) (N := 150) (n := 150) G hw zn3_14 rfl (by decide) rfl (by decide) (by decide) (by decide) (by decide) (Nat.le_trans (by decide) hR3) (Nat.le_trans (by decide) hR4) d_MP_init_80 (fun H hw => ?_)
  refine W.widen (k := 13) (n := 430) (by decide) (by decide) ?_
  refine zk_putF (ci := 9) G hw 30 10 (by decide) (by decide) zi_9 t_zd9 t_zd9_ok n_zd9 rfl rfl rfl (by decide) rfl zn3_27 (fun _ h => h) rfl hin rfl (x := 43) (by decide) (t_zd9_ok 10 (by decide)) rfl rfl d_MP_init_82 (fun H locs hw => ?_)
  refine lv_aload_n hx hb d_MP_init_85 rfl (lv_at hl 0 rfl) ?_
  refine lv_sipush (v := 6400) hx hb d_MP_init_86 (by decide) ?_
  refine zk_newa (atype := .int) (t := 0) (N := 6400) (n := 6400) G hw zn3_14 rfl (by decide) rfl (by decide) (by decide) (by decide) (by decide) (Nat.le_trans (by decide) hR3) (Nat.le_trans (by decide) hR4) d_MP_init_89 (fun H hw => ?_)
  refine W.widen (k := 14) (n := 6830) (by decide) (by decide) ?_
  refine zk_putF (ci := 9) G hw 30 11 (by decide) (by decide) zi_9 t_zd9 t_zd9_ok n_zd9 rfl rfl rfl (by decide) rfl zn3_28 (fun _ h => h) rfl hin rfl (x := 44) (by decide) (t_zd9_ok 11 (by decide)) rfl rfl d_MP_init_91 (fun H locs hw => ?_)
  refine lv_iconst (v := 0) hx hb d_MP_init_94 (by decide) ?_
  refine lv_istore_n hx hb d_MP_init_95 rfl hl (by decide) rfl (fun ls hl => ?_)
  have hl : lv_has ls 2 [(1, .int 0), (0, .ref (ad 30))] := hl
  refine lv_iload_n hx hb d_MP_init_96 rfl (lv_at hl 0 rfl) ?_
  refine lv_iconst (v := 4) hx hb d_MP_init_97 (by decide) ?_
  refine lv_icmp_ge hx hb d_MP_init_98 (tgt := 121) rfl (fun hc => absurd hc (by decide)) (fun _ => ?_)
  refine lv_aload_n hx hb d_MP_init_101 rfl (lv_at hl 1 rfl) ?_
  refine zk_get (ci := 9) G hw 30 2 (by decide) zi_9 rfl rfl rfl (by decide) zn3_21 (fun _ h => h) (q := 37) rfl rfl (by decide) d_MP_init_102 ?_
  refine lv_iload_n hx hb d_MP_init_105 rfl (lv_at hl 0 rfl) ?_
  refine zk_new (ci := 10) G hw zi_10 t_zd10 t_zd10_ok rfl rfl rfl (by decide) (zh_10 ad _) zn3_9 zn3_10 zn3_11 (Nat.le_trans (by decide) hR3) (Nat.le_trans (by decide) hR4) d_MP_init_106 (fun H hw => ?_)
  refine W.widen (k := 15) (n := 6833) (by decide) (by decide) ?_
  refine lv_dup hx hb d_MP_init_109 rfl ?_
  refine lv_iconst (v := 3) hx hb d_MP_init_110 (by decide) ?_
  refine zk_call (rest := [.ref (ad 45), .int 0, .ref (ad 37)]) (o := 45) G hw [.int 3] (zk_MN_init_45 hJ had hA) (cwI 1 hts (zs_gC zn3_16) rfl rfl rfl (hts _ zn3_11) (hts _ zn3_17) (hts _ zn3_18) rfl (by decide +kernel) ⟨Nat.le_trans (by decide) hR1, Nat.le_trans (by decide) hR2⟩) rfl hl.1 (Nat.le_of_ble_eq_true rfl) d_MP_init_111 ⟨Nat.le_trans (by decide) hR3, Nat.le_trans (by decide) hR4⟩ (fun H locs hw => ?_)
  refine W.widen (k := 17) (n := 6860) (by decide) (by decide) ?_
  refine zk_aast (t := 8) (n := 4) (ci := 10) (x := 45) (i := 0) G hw 37 (by decide) (by decide) rfl rfl (by decide) rfl (by decide) rfl rfl (by decide) d_MP_init_114 (fun H locs hw => ?_)
  refine lv_iinc (v := 1) hx hb d_MP_init_115 hl (k := 0) rfl (by decide) (by decide) rfl (fun ls hl => ?_)
  have hl : lv_has ls 2 [(1, .int 1), (0, .ref (ad 30))] := hl
  refine lv_goto hx hb d_MP_init_118 (tgt := 96) rfl ?_
  refine lv_iload_n hx hb d_MP_init_96 rfl (lv_at hl 0 rfl) ?_
  refine lv_iconst (v := 4) hx hb d_MP_init_97 (by decide) ?_
  refine lv_icmp_ge hx hb d_MP_init_98 (tgt := 121) rfl (fun hc => absurd hc (by decide)) (fun _ => ?_)
  refine lv_aload_n hx hb d_MP_init_101 rfl (lv_at hl 1 rfl) ?_
  refine zk_get (ci := 9) G hw 30 2 (by decide) zi_9 rfl rfl rfl (by decide) zn3_21 (fun _ h => h) (q := 37) rfl rfl (by decide) d_MP_init_102 ?_
  refine lv_iload_n hx hb d_MP_init_105 rfl (lv_at hl 0 rfl) ?_
  refine zk_new (ci := 10) G hw zi_10 t_zd10 t_zd10_ok rfl rfl rfl (by decide) (zh_10 ad _) zn3_9 zn3_10 zn3_11 (Nat.le_trans (by decide) hR3) (Nat.le_trans (by decide) hR4) d_MP_init_106 (fun H hw => ?_)
  refine W.widen (k := 18) (n := 6863) (by decide) (by decide) ?_
  refine lv_dup hx hb d_MP_init_109 rfl ?_
  refine lv_iconst (v := 3) hx hb d_MP_init_110 (by decide) ?_
  refine zk_call (rest := [.ref (ad 48), .int 1, .ref (ad 37)]) (o := 48) G hw [.int 3] (zk_MN_init_48 hJ had hA) (cwI 1 hts (zs_gC zn3_16) rfl rfl rfl (hts _ zn3_11) (hts _ zn3_17) (hts _ zn3_18) rfl (by decide +kernel) ⟨Nat.le_trans (by decide) hR1, Nat.le_trans (by decide) hR2⟩) rfl hl.1 (Nat.le_of_ble_eq_true rfl) d_MP_init_111 ⟨Nat.le_trans (by decide) hR3, Nat.le_trans (by decide) hR4⟩ (fun H locs hw => ?_)
  refine W.widen (k := 20) (n := 6890) (by decide) (by decide) ?_
  refine zk_aast (t := 8) (n := 4) (ci := 10) (x := 48) (i := 1) G hw 37 (by decide) (by decide) rfl rfl (by decide) rfl (by decide) rfl rfl (by decide) d_MP_init_114 (fun H locs hw => ?_)
  refine lv_iinc (v := 2) hx hb d_MP_init_115 hl (k := 0) rfl (by decide) (by decide) rfl (fun ls hl => ?_)
  have hl : lv_has ls 2 [(1, .int 2), (0, .ref (ad 30))] := hl
  refine lv_goto hx hb d_MP_init_118 (tgt := 96) rfl ?_
  refine lv_iload_n hx hb d_MP_init_96 rfl (lv_at hl 0 rfl) ?_
  refine lv_iconst (v := 4) hx hb d_MP_init_97 (by decide) ?_
  refine lv_icmp_ge hx hb d_MP_init_98 (tgt := 121) rfl (fun hc => absurd hc (by decide)) (fun _ => ?_)
  refine lv_aload_n hx hb d_MP_init_101 rfl (lv_at hl 1 rfl) ?_
  refine zk_get (ci := 9) G hw 30 2 (by decide) zi_9 rfl rfl rfl (by decide) zn3_21 (fun _ h => h) (q := 37) rfl rfl (by decide) d_MP_init_102 ?_
  refine lv_iload_n hx hb d_MP_init_105 rfl (lv_at hl 0 rfl) ?_
  refine zk_new (ci := 10) G hw zi_10 t_zd10 t_zd10_ok rfl rfl rfl (by decide) (zh_10 ad _) zn3_9 zn3_10 zn3_11 (Nat.le_trans (by decide) hR3) (Nat.le_trans (by decide) hR4) d_MP_init_106 (fun H hw => ?_)
  refine W.widen (k := 21) (n := 6893) (by decide) (by decide) ?_
  refine lv_dup hx hb d_MP_init_109 rfl ?_
  refine lv_iconst (v := 3) hx hb d_MP_init_110 (by decide) ?_
  refine zk_call (rest := [.ref (ad 51), .int 2, .ref (ad 37)]) (o := 51) G hw [.int 3] (zk_MN_init_51 hJ had hA) (cwI 1 hts (zs_gC zn3_16) rfl rfl rfl (hts _ zn3_11) (hts _ zn3_17) (hts _ zn3_18) rfl (by decide +kernel) ⟨Nat.le_trans (by decide) hR1, Nat.le_trans (by decide) hR2⟩) rfl hl.1 (Nat.le_of_ble_eq_true rfl) d_MP_init_111 ⟨Nat.le_trans (by decide) hR3, Nat.le_trans (by decide) hR4⟩ (fun H locs hw => ?_)
  refine W.widen (k := 23) (n := 6920) (by decide) (by decide) ?_
  refine zk_aast (t := 8) (n := 4) (ci := 10) (x := 51) (i := 2) G hw 37 (by decide) (by decide) rfl rfl (by decide) rfl (by decide) rfl rfl (by decide) d_MP_init_114 (fun H locs hw => ?_)
  refine lv_iinc (v := 3) hx hb d_MP_init_115 hl (k := 0) rfl (by decide) (by decide) rfl (fun ls hl => ?_)
  have hl : lv_has ls 2 [(1, .int 3), (0, .ref (ad 30))] := hl
  refine lv_goto hx hb d_MP_init_118 (tgt := 96) rfl ?_
  refine lv_iload_n hx hb d_MP_init_96 rfl (lv_at hl 0 rfl) ?_
  refine lv_iconst (v := 4) hx hb d_MP_init_97 (by decide) ?_
  refine lv_icmp_ge hx hb d_MP_init_98 (tgt := 121) rfl (fun hc => absurd hc (by decide)) (fun _ => ?_)
  refine lv_aload_n hx hb d_MP_init_101 rfl (lv_at hl 1 rfl) ?_
  refine zk_get (ci := 9) G hw 30 2 (by decide) zi_9 rfl rfl rfl (by decide) zn3_21 (fun _ h => h) (q := 37) rfl rfl (by decide) d_MP_init_102 ?_
  refine lv_iload_n hx hb d_MP_init_105 rfl (lv_at hl 0 rfl) ?_
  refine zk_new (ci := 10) G hw zi_10 t_zd10 t_zd10_ok rfl rfl rfl (by decide) (zh_10 ad _) zn3_9 zn3_10 zn3_11 (Nat.le_trans (by decide) hR3) (Nat.le_trans (by decide) hR4) d_MP_init_106 (fun H hw => ?_)
  refine W.widen (k := 24) (n := 6923) (by decide) (by decide) ?_
  refine lv_dup hx hb d_MP_init_109 rfl ?_
  refine lv_iconst (v := 3) hx hb d_MP_init_110 (by decide) ?_
  refine zk_call (rest := [.ref (ad 54), .int 3, .ref (ad 37)]) (o := 54) G hw [.int 3] (zk_MN_init_54 hJ had hA) (cwI 1 hts (zs_gC zn3_16) rfl rfl rfl (hts _ zn3_11) (hts _ zn3_17) (hts _ zn3_18) rfl (by decide +kernel) ⟨Nat.le_trans (by decide) hR1, Nat.le_trans (by decide) hR2⟩) rfl hl.1 (Nat.le_of_ble_eq_true rfl) d_MP_init_111 ⟨Nat.le_trans (by decide) hR3, Nat.le_trans (by decide) hR4⟩ (fun H locs hw => ?_)
  refine W.widen (k := 26) (n := 6950) (by decide) (by decide) ?_
  refine zk_aast (t := 8) (n := 4) (ci := 10) (x := 54) (i := 3) G hw 37 (by decide) (by decide) rfl rfl (by decide) rfl (by decide) rfl rfl (by decide) d_MP_init_114 (fun H locs hw => ?_)
  refine lv_iinc (v := 4) hx hb d_MP_init_115 hl (k := 0) rfl (by decide) (by decide) rfl (fun ls hl => ?_)
  have hl : lv_has ls 2 [(1, .int 4), (0, .ref (ad 30))] := hl
  refine lv_goto hx hb d_MP_init_118 (tgt := 96) rfl ?_
  refine lv_iload_n hx hb d_MP_init_96 rfl (lv_at hl 0 rfl) ?_
  refine lv_iconst (v := 4) hx hb d_MP_init_97 (by decide) ?_
  refine lv_icmp_ge hx hb d_MP_init_98 (tgt := 121) rfl (fun _ => ?_) (fun hc => absurd hc (by decide))
  exact zk_vret G hw hr hlocks hQ d_MP_init_121
def y_M_init : MethodName := ⟨"ScheduleCheckModel","<init>","()V"⟩
theorem d_M_init_0 : decode prog_13_method_2_code 0 = .ok (.aload_n 0, 1) := by decide +kernel
theorem d_M_init_1 : decode prog_13_method_2_code 1 = .ok (.invokespecial 3, 3) := by decide +kernel
theorem d_M_init_4 : decode prog_13_method_2_code 4 = .ok (.aload_n 0, 1) := by decide +kernel
theorem d_M_init_5 : decode prog_13_method_2_code 5 = .ok (.sipush 1600, 3) := by decide +kernel
theorem d_M_init_8 : decode prog_13_method_2_code 8 = .ok (.newarray .byte, 2) := by decide +kernel
theorem d_M_init_10 : decode prog_13_method_2_code 10 = .ok (.putfield 9, 3) := by decide +kernel
theorem d_M_init_13 : decode prog_13_method_2_code 13 = .ok (.aload_n 0, 1) := by decide +kernel
theorem d_M_init_14 : decode prog_13_method_2_code 14 = .ok (.new 13, 3) := by decide +kernel
theorem d_M_init_17 : decode prog_13_method_2_code 17 = .ok (.dup, 1) := by decide +kernel
theorem d_M_init_18 : decode prog_13_method_2_code 18 = .ok (.invokespecial 15, 3) := by decide +kernel
theorem d_M_init_21 : decode prog_13_method_2_code 21 = .ok (.putfield 16, 3) := by decide +kernel
theorem d_M_init_24 : decode prog_13_method_2_code 24 = .ok (.aload_n 0, 1) := by decide +kernel
theorem d_M_init_25 : decode prog_13_method_2_code 25 = .ok (.new 13, 3) := by decide +kernel
theorem d_M_init_28 : decode prog_13_method_2_code 28 = .ok (.dup, 1) := by decide +kernel
theorem d_M_init_29 : decode prog_13_method_2_code 29 = .ok (.invokespecial 15, 3) := by decide +kernel
theorem d_M_init_32 : decode prog_13_method_2_code 32 = .ok (.putfield 20, 3) := by decide +kernel
theorem d_M_init_35 : decode prog_13_method_2_code 35 = .ok (.aload_n 0, 1) := by decide +kernel
theorem d_M_init_36 : decode prog_13_method_2_code 36 = .ok (.sipush 200, 3) := by decide +kernel
theorem d_M_init_39 : decode prog_13_method_2_code 39 = .ok (.newarray .int, 2) := by decide +kernel
theorem d_M_init_41 : decode prog_13_method_2_code 41 = .ok (.putfield 23, 3) := by decide +kernel
theorem d_M_init_44 : decode prog_13_method_2_code 44 = .ok (.aload_n 0, 1) := by decide +kernel
theorem d_M_init_45 : decode prog_13_method_2_code 45 = .ok (.sipush 27234, 3) := by decide +kernel
theorem d_M_init_48 : decode prog_13_method_2_code 48 = .ok (.newarray .int, 2) := by decide +kernel
theorem d_M_init_50 : decode prog_13_method_2_code 50 = .ok (.putfield 27, 3) := by decide +kernel
theorem d_M_init_53 : decode prog_13_method_2_code 53 = .ok (.aload_n 0, 1) := by decide +kernel
theorem d_M_init_54 : decode prog_13_method_2_code 54 = .ok (.sipush 801, 3) := by decide +kernel
theorem d_M_init_57 : decode prog_13_method_2_code 57 = .ok (.newarray .int, 2) := by decide +kernel
theorem d_M_init_59 : decode prog_13_method_2_code 59 = .ok (.putfield 30, 3) := by decide +kernel
theorem d_M_init_62 : decode prog_13_method_2_code 62 = .ok (.aload_n 0, 1) := by decide +kernel
theorem d_M_init_63 : decode prog_13_method_2_code 63 = .ok (.sipush 801, 3) := by decide +kernel
theorem d_M_init_66 : decode prog_13_method_2_code 66 = .ok (.newarray .int, 2) := by decide +kernel
theorem d_M_init_68 : decode prog_13_method_2_code 68 = .ok (.putfield 33, 3) := by decide +kernel
theorem d_M_init_71 : decode prog_13_method_2_code 71 = .ok (.aload_n 0, 1) := by decide +kernel
theorem d_M_init_72 : decode prog_13_method_2_code 72 = .ok (.sipush 801, 3) := by decide +kernel
theorem d_M_init_75 : decode prog_13_method_2_code 75 = .ok (.newarray .int, 2) := by decide +kernel
theorem d_M_init_77 : decode prog_13_method_2_code 77 = .ok (.putfield 36, 3) := by decide +kernel
theorem d_M_init_80 : decode prog_13_method_2_code 80 = .ok (.aload_n 0, 1) := by decide +kernel
theorem d_M_init_81 : decode prog_13_method_2_code 81 = .ok (.sipush 802, 3) := by decide +kernel
theorem d_M_init_84 : decode prog_13_method_2_code 84 = .ok (.newarray .int, 2) := by decide +kernel
theorem d_M_init_86 : decode prog_13_method_2_code 86 = .ok (.putfield 39, 3) := by decide +kernel
theorem d_M_init_89 : decode prog_13_method_2_code 89 = .ok (.aload_n 0, 1) := by decide +kernel
theorem d_M_init_90 : decode prog_13_method_2_code 90 = .ok (.sipush 12800, 3) := by decide +kernel
theorem d_M_init_93 : decode prog_13_method_2_code 93 = .ok (.newarray .int, 2) := by decide +kernel
theorem d_M_init_95 : decode prog_13_method_2_code 95 = .ok (.putfield 42, 3) := by decide +kernel
theorem d_M_init_98 : decode prog_13_method_2_code 98 = .ok (.aload_n 0, 1) := by decide +kernel
theorem d_M_init_99 : decode prog_13_method_2_code 99 = .ok (.bipush 34, 2) := by decide +kernel
theorem d_M_init_101 : decode prog_13_method_2_code 101 = .ok (.newarray .int, 2) := by decide +kernel
theorem d_M_init_103 : decode prog_13_method_2_code 103 = .ok (.putfield 45, 3) := by decide +kernel
theorem d_M_init_106 : decode prog_13_method_2_code 106 = .ok (.aload_n 0, 1) := by decide +kernel
theorem d_M_init_107 : decode prog_13_method_2_code 107 = .ok (.bipush 34, 2) := by decide +kernel
theorem d_M_init_109 : decode prog_13_method_2_code 109 = .ok (.newarray .int, 2) := by decide +kernel
theorem d_M_init_111 : decode prog_13_method_2_code 111 = .ok (.putfield 48, 3) := by decide +kernel
theorem d_M_init_114 : decode prog_13_method_2_code 114 = .ok (.aload_n 0, 1) := by decide +kernel
theorem d_M_init_115 : decode prog_13_method_2_code 115 = .ok (.sipush 166, 3) := by decide +kernel
theorem d_M_init_118 : decode prog_13_method_2_code 118 = .ok (.newarray .int, 2) := by decide +kernel
theorem d_M_init_120 : decode prog_13_method_2_code 120 = .ok (.putfield 51, 3) := by decide +kernel
theorem d_M_init_123 : decode prog_13_method_2_code 123 = .ok (.aload_n 0, 1) := by decide +kernel
theorem d_M_init_124 : decode prog_13_method_2_code 124 = .ok (.sipush 256, 3) := by decide +kernel
theorem d_M_init_127 : decode prog_13_method_2_code 127 = .ok (.newarray .boolean, 2) := by decide +kernel
theorem d_M_init_129 : decode prog_13_method_2_code 129 = .ok (.putfield 54, 3) := by decide +kernel
theorem d_M_init_132 : decode prog_13_method_2_code 132 = .ok (.return_, 1) := by decide +kernel
def zk_f_M_init_1 (σ : zs_S) : zs_S := (zs_wr (zs_wr (zs_wr (zs_wr (zs_wr (zs_wr (zs_wr (zs_wr (zs_wr (zs_wr (zs_wr (zs_wr (zk_f_MP_init_30 (zs_wr (zk_f_MP_init_3 (zs_wr σ 1 0 2)) 1 2 3)) 1 3 30) 1 15 57) 1 17 58) 1 18 59) 1 19 60) 1 20 61) 1 21 62) 1 22 63) 1 25 64) 1 26 65) 1 27 66) 1 30 67)
set_option maxHeartbeats 8000000 in
set_option maxRecDepth 100000 in
theorem zk_M_init_1 {l : Launch} {D : va_G} {cA : Nat → ClassId} {ad : Nat → Nat} {A : Nat → Prop} {b : Nat} {σ : zs_S} (hJ : zs_J ad) (had : ∀ o, 1 ≤ o → o ≤ zd_M 3 → ad o = b + (o - 1)) (hA : ∀ q, b ≤ q → A q) : Met l y_M_init (.code y_M_init prog_13_method_2_code 1 none :: zd_ww) { frames := 3, cells := 66, slots := 59455, locals := 72 } (va_Pc [.ref (ad 1)] (zk_U 3 D cA ad A b 1 σ)) (zk_Q 3 D cA ad A b 67 (zk_f_M_init_1 σ)) 66 59455 A := by
  refine Met.ofW (cc := prog_13_method_2_code) (maxL := 1) (ret := none) (by decide) rfl ?_
  intro p e s m args below meth c s₁ B hml hv
  obtain ⟨hargs, hP, hK, hD, hZ, hz, hd, hO⟩ := hv
  have G : zk_G 3 p s m args c prog_13_method_2_code 1 "ScheduleCheckModel" D cA ad A b := ⟨⟨B.exec, B.bytes, hml, findClass_of_methodNamed B.named, fun w h => atoms_spec B.pre w (List.mem_cons_of_mem _ h)⟩, hK, hJ, hZ, had, hA, hO⟩
  have hw : zk_I 3 D cA ad A s b 1 σ s.heap [] := ⟨hP, hD, va_S.rf, hz, hd⟩
  have hx := G.1.1
  have hb := G.1.2.1
  have hown := G.1.2.2.2.1
  have hts := G.1.2.2.2.2
  have hr := B.returns
  have hlocks := B.notSynchronized
  have hin : meth.name = "<init>" := (name_of_methodNamed B.named B.method).1
  have he : entryFrame m args 1 = F0 m 0 ((lg_sl [.ref (ad 1)] ++ List.replicate (1 - (lg_sl [.ref (ad 1)]).length) Slot.unset).toArray) [] := by rw [hargs]; exact lg_entry_eq m _ 1
  have hl := lv_entry [.ref (ad 1)] (n := 1) (Nat.le_of_ble_eq_true rfl)
  rw [he]
  generalize (lg_sl [.ref (ad 1)] ++ List.replicate (1 - (lg_sl [.ref (ad 1)]).length) Slot.unset).toArray = ls at hl
  have hl : lv_has ls 1 [(0, .ref (ad 1))] := hl
  obtain ⟨RR, hR⟩ : ∃ z, z = (headSpec (.code y_M_init prog_13_method_2_code 1 none :: zd_ww) { frames := 3, cells := 66, slots := 59455, locals := 72 }).room := ⟨_, rfl⟩
  rw [← hR]
  obtain ⟨QQ, hQ⟩ : ∃ z, z = MQ below (zk_Q 3 D cA ad A b 67 (zk_f_M_init_1 σ)) args s 66 59455 A := ⟨_, rfl⟩
  rw [← hQ]
  have hR1 : 3 ≤ RR.frames := by rw [hR]; exact Nat.le_refl _
  have hR2 : 72 ≤ RR.locals := by rw [hR]; exact Nat.le_refl _
  have hR3 : 66 ≤ RR.cells := by rw [hR]; exact Nat.le_refl _
  have hR4 : 59455 ≤ RR.slots := by rw [hR]; exact Nat.le_refl _
  generalize s.heap = H at hw ⊢
  generalize ([] : List Loc) = locs at hw ⊢
  refine lv_aload_n hx hb d_M_init_0 rfl (lv_at hl 0 rfl) ?_
  refine W.objInit hx hb hown (hts _ zn3_0) (hts _ zn3_1) (hts _ zn3_2) rfl (by rw [hml]; exact hl.1) rfl d_M_init_1 (Nat.le_trans (by decide) hR1) (Nat.le_trans (Nat.le_of_ble_eq_true rfl) hR2) ?_
  refine W.eq (g2 := F0 m 4 ls []) rfl ?_
  refine lv_aload_n hx hb d_M_init_4 rfl (lv_at hl 0 rfl) ?_
  refine lv_sipush (v := 1600) hx hb d_M_init_5 (by decide) ?_
  refine zk_newa (atype := .byte) (t := 1) (N := 1600) (n := 1600) G hw zn3_3 rfl (by decide) rfl (by decide) (by decide) (by decide) (by decide) (Nat.le_trans (by decide) hR3) (Nat.le_trans (by decide) hR4) d_M_init_8 (fun H hw => ?_)
  refine W.widen (k := 1) (n := 1600) (by decide) (by decide) ?_
  refine zk_putF (ci := 8) G hw 1 0 (by decide) (by decide) zi_8 t_zd8 t_zd8_ok n_zd8 rfl rfl rfl (by decide) rfl zn3_4 (fun _ h => h) rfl hin rfl (x := 2) (by decide) (t_zd8_ok 0 (by decide)) rfl rfl d_M_init_10 (fun H locs hw => ?_)
  refine lv_aload_n hx hb d_M_init_13 rfl (lv_at hl 0 rfl) ?_
  refine zk_new (ci := 9) G hw zi_9 t_zd9 t_zd9_ok rfl rfl rfl (by decide) (zh_9 ad _) zn3_5 zn3_6 zn3_7 (Nat.le_trans (by decide) hR3) (Nat.le_trans (by decide) hR4) d_M_init_14 (fun H hw => ?_)
  refine W.widen (k := 2) (n := 1613) (by decide) (by decide) ?_
  refine lv_dup hx hb d_M_init_17 rfl ?_
  refine zk_call (rest := [.ref (ad 3), .ref (ad 1)]) (o := 3) G hw [] (zk_MP_init_3 hJ had hA) (cwI 0 hts (zs_gC zn3_29) rfl rfl rfl (hts _ zn3_7) (hts _ zn3_30) (hts _ zn3_31) rfl (by decide +kernel) ⟨Nat.le_trans (by decide) hR1, Nat.le_trans (by decide) hR2⟩) rfl hl.1 (Nat.le_of_ble_eq_true rfl) d_M_init_18 ⟨Nat.le_trans (by decide) hR3, Nat.le_trans (by decide) hR4⟩ (fun H locs hw => ?_)
  refine W.widen (k := 28) (n := 8563) (by decide) (by decide) ?_
  refine zk_putr (ci := 8) G hw 1 2 (by decide) (by decide) zi_8 t_zd8 t_zd8_ok n_zd8 rfl rfl rfl (by decide) rfl zn3_32 (fun _ h => h) rfl  (x := 3) (by decide) (t_zd8_ok 2 (by decide)) rfl rfl d_M_init_21 (fun H locs hw => ?_)
  refine lv_aload_n hx hb d_M_init_24 rfl (lv_at hl 0 rfl) ?_
  refine zk_new (ci := 9) G hw zi_9 t_zd9 t_zd9_ok rfl rfl rfl (by decide) (zh_9 ad _) zn3_5 zn3_6 zn3_7 (Nat.le_trans (by decide) hR3) (Nat.le_trans (by decide) hR4) d_M_init_25 (fun H hw => ?_)
  refine W.widen (k := 29) (n := 8576) (by decide) (by decide) ?_
  refine lv_dup hx hb d_M_init_28 rfl ?_
  refine zk_call (rest := [.ref (ad 30), .ref (ad 1)]) (o := 30) G hw [] (zk_MP_init_30 hJ had hA) (cwI 0 hts (zs_gC zn3_29) rfl rfl rfl (hts _ zn3_7) (hts _ zn3_30) (hts _ zn3_31) rfl (by decide +kernel) ⟨Nat.le_trans (by decide) hR1, Nat.le_trans (by decide) hR2⟩) rfl hl.1 (Nat.le_of_ble_eq_true rfl) d_M_init_29 ⟨Nat.le_trans (by decide) hR3, Nat.le_trans (by decide) hR4⟩ (fun H locs hw => ?_)
  refine W.widen (k := 55) (n := 15526) (by decide) (by decide) ?_
  refine zk_putr (ci := 8) G hw 1 3 (by decide) (by decide) zi_8 t_zd8 t_zd8_ok n_zd8 rfl rfl rfl (by decide) rfl zn3_33 (fun _ h => h) rfl  (x := 30) (by decide) (t_zd8_ok 3 (by decide)) rfl rfl d_M_init_32 (fun H locs hw => ?_)
  refine lv_aload_n hx hb d_M_init_35 rfl (lv_at hl 0 rfl) ?_
  refine lv_sipush (v := 200) hx hb d_M_init_36 (by decide) ?_
  refine zk_newa (atype := .int) (t := 0) (N := 200) (n := 200) G hw zn3_14 rfl (by decide) rfl (by decide) (by decide) (by decide) (by decide) (Nat.le_trans (by decide) hR3) (Nat.le_trans (by decide) hR4) d_M_init_39 (fun H hw => ?_)
  refine W.widen (k := 56) (n := 15726) (by decide) (by decide) ?_
  refine zk_putF (ci := 8) G hw 1 15 (by decide) (by decide) zi_8 t_zd8 t_zd8_ok n_zd8 rfl rfl rfl (by decide) rfl zn3_34 (fun _ h => h) rfl hin rfl (x := 57) (by decide) (t_zd8_ok 15 (by decide)) rfl rfl d_M_init_41 (fun H locs hw => ?_)
  refine lv_aload_n hx hb d_M_init_44 rfl (lv_at hl 0 rfl) ?_
  refine lv_sipush (v := 27234) hx hb d_M_init_45 (by decide) ?_
  refine zk_newa (atype := .int) (t := 0) (N := 27234) (n := 27234) G hw zn3_14 rfl (by decide) rfl (by decide) (by decide) (by decide) (by decide) (Nat.le_trans (by decide) hR3) (Nat.le_trans (by decide) hR4) d_M_init_48 (fun H hw => ?_)
  refine W.widen (k := 57) (n := 42960) (by decide) (by decide) ?_
  refine zk_putF (ci := 8) G hw 1 17 (by decide) (by decide) zi_8 t_zd8 t_zd8_ok n_zd8 rfl rfl rfl (by decide) rfl zn3_35 (fun _ h => h) rfl hin rfl (x := 58) (by decide) (t_zd8_ok 17 (by decide)) rfl rfl d_M_init_50 (fun H locs hw => ?_)
  refine lv_aload_n hx hb d_M_init_53 rfl (lv_at hl 0 rfl) ?_
  refine lv_sipush (v := 801) hx hb d_M_init_54 (by decide) ?_
  refine zk_newa (atype := .int) (t := 0) (N := 801) (n := 801) G hw zn3_14 rfl (by decide) rfl (by decide) (by decide) (by decide) (by decide) (Nat.le_trans (by decide) hR3) (Nat.le_trans (by decide) hR4) d_M_init_57 (fun H hw => ?_)
  refine W.widen (k := 58) (n := 43761) (by decide) (by decide) ?_
  refine zk_putF (ci := 8) G hw 1 18 (by decide) (by decide) zi_8 t_zd8 t_zd8_ok n_zd8 rfl rfl rfl (by decide) rfl zn3_36 (fun _ h => h) rfl hin rfl (x := 59) (by decide) (t_zd8_ok 18 (by decide)) rfl rfl d_M_init_59 (fun H locs hw => ?_)
  refine lv_aload_n hx hb d_M_init_62 rfl (lv_at hl 0 rfl) ?_
  refine lv_sipush (v := 801) hx hb d_M_init_63 (by decide) ?_
  refine zk_newa (atype := .int) (t := 0) (N := 801) (n := 801) G hw zn3_14 rfl (by decide) rfl (by decide) (by decide) (by decide) (by decide) (Nat.le_trans (by decide) hR3) (Nat.le_trans (by decide) hR4) d_M_init_66 (fun H hw => ?_)
  refine W.widen (k := 59) (n := 44562) (by decide) (by decide) ?_
  refine zk_putF (ci := 8) G hw 1 19 (by decide) (by decide) zi_8 t_zd8 t_zd8_ok n_zd8 rfl rfl rfl (by decide) rfl zn3_37 (fun _ h => h) rfl hin rfl (x := 60) (by decide) (t_zd8_ok 19 (by decide)) rfl rfl d_M_init_68 (fun H locs hw => ?_)
  refine lv_aload_n hx hb d_M_init_71 rfl (lv_at hl 0 rfl) ?_
  refine lv_sipush (v := 801) hx hb d_M_init_72 (by decide) ?_
  refine zk_newa (atype := .int) (t := 0) (N := 801) (n := 801) G hw zn3_14 rfl (by decide) rfl (by decide) (by decide) (by decide) (by decide) (Nat.le_trans (by decide) hR3) (Nat.le_trans (by decide) hR4) d_M_init_75 (fun H hw => ?_)
  refine W.widen (k := 60) (n := 45363) (by decide) (by decide) ?_
  refine zk_putF (ci := 8) G hw 1 20 (by decide) (by decide) zi_8 t_zd8 t_zd8_ok n_zd8 rfl rfl rfl (by decide) rfl zn3_38 (fun _ h => h) rfl hin rfl (x := 61) (by decide) (t_zd8_ok 20 (by decide)) rfl rfl d_M_init_77 (fun H locs hw => ?_)
  refine lv_aload_n hx hb d_M_init_80 rfl (lv_at hl 0 rfl) ?_
  refine lv_sipush (v := 802) hx hb d_M_init_81 (by decide) ?_
  refine zk_newa (atype := .int) (t := 0) (N := 802) (n := 802) G hw zn3_14 rfl (by decide) rfl (by decide) (by decide) (by decide) (by decide) (Nat.le_trans (by decide) hR3) (Nat.le_trans (by decide) hR4) d_M_init_84 (fun H hw => ?_)
  refine W.widen (k := 61) (n := 46165) (by decide) (by decide) ?_
  refine zk_putF (ci := 8) G hw 1 21 (by decide) (by decide) zi_8 t_zd8 t_zd8_ok n_zd8 rfl rfl rfl (by decide) rfl zn3_39 (fun _ h => h) rfl hin rfl (x := 62) (by decide) (t_zd8_ok 21 (by decide)) rfl rfl d_M_init_86 (fun H locs hw => ?_)
  refine lv_aload_n hx hb d_M_init_89 rfl (lv_at hl 0 rfl) ?_
  refine lv_sipush (v := 12800) hx hb d_M_init_90 (by decide) ?_
  refine zk_newa (atype := .int) (t := 0) (N := 12800) (n := 12800) G hw zn3_14 rfl (by decide) rfl (by decide) (by decide) (by decide) (by decide) (Nat.le_trans (by decide) hR3) (Nat.le_trans (by decide) hR4) d_M_init_93 (fun H hw => ?_)
  refine W.widen (k := 62) (n := 58965) (by decide) (by decide) ?_
  refine zk_putF (ci := 8) G hw 1 22 (by decide) (by decide) zi_8 t_zd8 t_zd8_ok n_zd8 rfl rfl rfl (by decide) rfl zn3_40 (fun _ h => h) rfl hin rfl (x := 63) (by decide) (t_zd8_ok 22 (by decide)) rfl rfl d_M_init_95 (fun H locs hw => ?_)
  refine lv_aload_n hx hb d_M_init_98 rfl (lv_at hl 0 rfl) ?_
  refine lv_bipush (v := 34) hx hb d_M_init_99 (by decide) ?_
  refine zk_newa (atype := .int) (t := 0) (N := 34) (n := 34) G hw zn3_14 rfl (by decide) rfl (by decide) (by decide) (by decide) (by decide) (Nat.le_trans (by decide) hR3) (Nat.le_trans (by decide) hR4) d_M_init_101 (fun H hw => ?_)
  refine W.widen (k := 63) (n := 58999) (by decide) (by decide) ?_
  refine zk_putF (ci := 8) G hw 1 25 (by decide) (by decide) zi_8 t_zd8 t_zd8_ok n_zd8 rfl rfl rfl (by decide) rfl zn3_41 (fun _ h => h) rfl hin rfl (x := 64) (by decide) (t_zd8_ok 25 (by decide)) rfl rfl d_M_init_103 (fun H locs hw => ?_)
  refine lv_aload_n hx hb d_M_init_106 rfl (lv_at hl 0 rfl) ?_
  refine lv_bipush (v := 34) hx hb d_M_init_107 (by decide) ?_
  refine zk_newa (atype := .int) (t := 0) (N := 34) (n := 34) G hw zn3_14 rfl (by decide) rfl (by decide) (by decide) (by decide) (by decide) (Nat.le_trans (by decide) hR3) (Nat.le_trans (by decide) hR4) d_M_init_109 (fun H hw => ?_)
  refine W.widen (k := 64) (n := 59033) (by decide) (by decide) ?_
  refine zk_putF (ci := 8) G hw 1 26 (by decide) (by decide) zi_8 t_zd8 t_zd8_ok n_zd8 rfl rfl rfl (by decide) rfl zn3_42 (fun _ h => h) rfl hin rfl (x := 65) (by decide) (t_zd8_ok 26 (by decide)) rfl rfl d_M_init_111 (fun H locs hw => ?_)
  refine lv_aload_n hx hb d_M_init_114 rfl (lv_at hl 0 rfl) ?_
  refine lv_sipush (v := 166) hx hb d_M_init_115 (by decide) ?_
  refine zk_newa (atype := .int) (t := 0) (N := 166) (n := 166) G hw zn3_14 rfl (by decide) rfl (by decide) (by decide) (by decide) (by decide) (Nat.le_trans (by decide) hR3) (Nat.le_trans (by decide) hR4) d_M_init_118 (fun H hw => ?_)
  refine W.widen (k := 65) (n := 59199) (by decide) (by decide) ?_
  refine zk_putF (ci := 8) G hw 1 27 (by decide) (by decide) zi_8 t_zd8 t_zd8_ok n_zd8 rfl rfl rfl (by decide) rfl zn3_43 (fun _ h => h) rfl hin rfl (x := 66) (by decide) (t_zd8_ok 27 (by decide)) rfl rfl d_M_init_120 (fun H locs hw => ?_)
  refine lv_aload_n hx hb d_M_init_123 rfl (lv_at hl 0 rfl) ?_
  refine lv_sipush (v := 256) hx hb d_M_init_124 (by decide) ?_
  refine zk_newa (atype := .boolean) (t := 2) (N := 256) (n := 256) G hw zn3_44 rfl (by decide) rfl (by decide) (by decide) (by decide) (by decide) (Nat.le_trans (by decide) hR3) (Nat.le_trans (by decide) hR4) d_M_init_127 (fun H hw => ?_)
  refine W.widen (k := 66) (n := 59455) (by decide) (by decide) ?_
  refine zk_putF (ci := 8) G hw 1 30 (by decide) (by decide) zi_8 t_zd8 t_zd8_ok n_zd8 rfl rfl rfl (by decide) rfl zn3_45 (fun _ h => h) rfl hin rfl (x := 67) (by decide) (t_zd8_ok 30 (by decide)) rfl rfl d_M_init_129 (fun H locs hw => ?_)
  exact zk_vret G hw hr hlocks hQ d_M_init_132
