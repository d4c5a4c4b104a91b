theorem zm_101 : Cond.fieldLink "ScheduleCheck$Program" 35 "ScheduleCheck$Program" "variables" "I" ∈ zd_ww := zd_me 238 (by decide +kernel) (by decide +kernel)
theorem zm_102 : Cond.fieldLink "ScheduleCheck$Program" 39 "ScheduleCheck$Program" "locks" "I" ∈ zd_ww := zd_me 242 (by decide +kernel) (by decide +kernel)
theorem zm_103 : Cond.fieldLink "ScheduleCheck$Program" 42 "ScheduleCheck$Program" "threads" "I" ∈ zd_ww := zd_me 245 (by decide +kernel) (by decide +kernel)
theorem zm_104 : Cond.fieldLink "ScheduleCheck$Program" 45 "ScheduleCheck$Program" "size" "I" ∈ zd_ww := zd_me 249 (by decide +kernel) (by decide +kernel)
theorem zm_105 : Cond.fieldLink "ScheduleCheck$Program" 31 "ScheduleCheck$Program" "code" "LScheduleCheck$Code;" ∈ zd_ww := zd_me 264 (by decide +kernel) (by decide +kernel)
theorem zm_106 : Cond.fieldLink "ScheduleCheck$Program" 48 "ScheduleCheck$Code" "size" "I" ∈ zd_ww := zd_me 227 (by decide +kernel) (by decide +kernel)
theorem zm_107 : Cond.fieldLink "ScheduleCheck$Program" 23 "ScheduleCheck$Program" "statements" "[LScheduleCheck$Statement;" ∈ zd_ww := zd_me 261 (by decide +kernel) (by decide +kernel)
theorem zm_108 : Cond.fieldLink "ScheduleCheck$Program" 62 "ScheduleCheck$Statement" "kind" "LScheduleCheck$Kind;" ∈ zd_ww := zd_me 170 (by decide +kernel) (by decide +kernel)
theorem zm_109 : Cond.fieldLink "ScheduleCheck$Program" 66 "ScheduleCheck$Kind" "WHILE" "LScheduleCheck$Kind;" ∈ zd_ww := zd_me 575 (by decide +kernel) (by decide +kernel)
theorem zm_110 : Cond.fieldLink "ScheduleCheck$Program" 49 "ScheduleCheck$Statement" "follow" "I" ∈ zd_ww := zd_me 192 (by decide +kernel) (by decide +kernel)
theorem zm_111 : Cond.fieldLink "ScheduleCheck$Program" 52 "ScheduleCheck$Statement" "parent" "I" ∈ zd_ww := zd_me 173 (by decide +kernel) (by decide +kernel)
theorem zm_112 : Cond.code ⟨"ScheduleCheck$Program","behindBlock","(I)I"⟩ prog_7_method_6_code 2 (Option.some FieldType.int) ∈ zd_ww := zd_me 574 (by decide +kernel) (by decide +kernel)
theorem zm_113 : Cond.methodLink "ScheduleCheck$Program" 55 ⟨"ScheduleCheck$Program","behindBlock","(I)I"⟩ ∈ zd_ww := zd_me 571 (by decide +kernel) (by decide +kernel)
theorem zm_114 : Cond.instanceMethod ⟨"ScheduleCheck$Program","behindBlock","(I)I"⟩ ∈ zd_ww := zd_me 573 (by decide +kernel) (by decide +kernel)
theorem zm_115 : Cond.selects "ScheduleCheck$Program" ⟨"ScheduleCheck$Program","behindBlock","(I)I"⟩ ⟨"ScheduleCheck$Program","behindBlock","(I)I"⟩ ∈ zd_ww := zd_ms 28 (by decide +kernel) (by decide +kernel)
theorem zm_116 : Cond.initialized "ScheduleCheck$Program" ∈ zd_ww := zd_me 5 (by decide +kernel) (by decide +kernel)
theorem zm_117 : Cond.fieldLink "ScheduleCheck$Program" 59 "ScheduleCheck$Statement" "yes" "I" ∈ zd_ww := zd_me 184 (by decide +kernel) (by decide +kernel)
theorem zm_118 : Cond.fieldLink "ScheduleCheck$Program" 71 "ScheduleCheck$Statement" "no" "I" ∈ zd_ww := zd_me 188 (by decide +kernel) (by decide +kernel)
theorem zm_119 : Cond.fieldLink "ScheduleCheck$Code" 24 "ScheduleCheck$Code" "size" "I" ∈ zd_ww := zd_me 226 (by decide +kernel) (by decide +kernel)
theorem zm_120 : Cond.fieldLink "ScheduleCheck$Code" 11 "ScheduleCheck$Code" "signs" "[LScheduleCheck$Token;" ∈ zd_ww := zd_me 223 (by decide +kernel) (by decide +kernel)
theorem zm_121 : Cond.fieldLink "ScheduleCheck$Code" 17 "ScheduleCheck$Code" "operands" "[I" ∈ zd_ww := zd_me 224 (by decide +kernel) (by decide +kernel)
theorem zm_122 : Cond.fieldLink "ScheduleCheck$Code" 49 "ScheduleCheck$1" "$SwitchMap$ScheduleCheck$Token" "[I" ∈ zd_ww := zd_me 682 (by decide +kernel) (by decide +kernel)
theorem zm_123 : Cond.code ⟨"java/lang/Enum","ordinal","()I"⟩ prog_16_method_2_code 1 (Option.some FieldType.int) ∈ zd_ww := zd_me 481 (by decide +kernel) (by decide +kernel)
theorem zm_124 : Cond.methodLink "ScheduleCheck$Code" 54 ⟨"ScheduleCheck$Token","ordinal","()I"⟩ ∈ zd_ww := zd_me 683 (by decide +kernel) (by decide +kernel)
theorem zm_125 : Cond.sameMethod "ScheduleCheck$Token" "java/lang/Enum" "ordinal" "()I" ∈ zd_ww := zd_me 477 (by decide +kernel) (by decide +kernel)
theorem zm_126 : Cond.selects "ScheduleCheck$Token" ⟨"ScheduleCheck$Token","ordinal","()I"⟩ ⟨"java/lang/Enum","ordinal","()I"⟩ ∈ zd_ww := zd_me 479 (by decide +kernel) (by decide +kernel)
theorem zm_127 : Cond.instanceMethod ⟨"java/lang/Enum","ordinal","()I"⟩ ∈ zd_ww := zd_me 480 (by decide +kernel) (by decide +kernel)
theorem zm_128 : Cond.initialized "java/lang/Enum" ∈ zd_ww := zd_me 7 (by decide +kernel) (by decide +kernel)
theorem zm_129 : Cond.code ⟨"ScheduleCheck$Code","bit","(Z)I"⟩ prog_3_method_5_code 1 (Option.some FieldType.int) ∈ zd_ww := zd_me 677 (by decide +kernel) (by decide +kernel)
theorem zm_130 : Cond.methodLink "ScheduleCheck$Code" 38 ⟨"ScheduleCheck$Code","bit","(Z)I"⟩ ∈ zd_ww := zd_me 675 (by decide +kernel) (by decide +kernel)
theorem zm_131 : Cond.static ⟨"ScheduleCheck$Code","bit","(Z)I"⟩ ∈ zd_ww := zd_me 676 (by decide +kernel) (by decide +kernel)
theorem zm_132 : Cond.initialized "ScheduleCheck$Code" ∈ zd_ww := zd_me 9 (by decide +kernel) (by decide +kernel)
theorem zm_133 : Cond.fieldLink "ScheduleCheck$Code" 21 "ScheduleCheck$Code" "stack" "[I" ∈ zd_ww := zd_me 225 (by decide +kernel) (by decide +kernel)
theorem zm_134 : Cond.fieldLink "ScheduleCheck$Code" 28 "ScheduleCheck$Token" "NUMBER" "LScheduleCheck$Token;" ∈ zd_ww := zd_me 672 (by decide +kernel) (by decide +kernel)
theorem zm_135 : Cond.fieldLink "ScheduleCheck$Code" 32 "ScheduleCheck$Token" "NAME" "LScheduleCheck$Token;" ∈ zd_ww := zd_me 673 (by decide +kernel) (by decide +kernel)
theorem zm_136 : Cond.fieldLink "ScheduleCheck$Code" 35 "ScheduleCheck$Token" "NOT" "LScheduleCheck$Token;" ∈ zd_ww := zd_me 674 (by decide +kernel) (by decide +kernel)
theorem zm_137 : Cond.fieldLink "ScheduleCheck$Code" 42 "ScheduleCheck$Token" "NEGATE" "LScheduleCheck$Token;" ∈ zd_ww := zd_me 678 (by decide +kernel) (by decide +kernel)
theorem zm_138 : Cond.code ⟨"ScheduleCheck$Code","join","(LScheduleCheck$Token;II)I"⟩ prog_3_method_4_code 3 (Option.some FieldType.int) ∈ zd_ww := zd_me 681 (by decide +kernel) (by decide +kernel)
theorem zm_139 : Cond.methodLink "ScheduleCheck$Code" 45 ⟨"ScheduleCheck$Code","join","(LScheduleCheck$Token;II)I"⟩ ∈ zd_ww := zd_me 679 (by decide +kernel) (by decide +kernel)
theorem zm_140 : Cond.static ⟨"ScheduleCheck$Code","join","(LScheduleCheck$Token;II)I"⟩ ∈ zd_ww := zd_me 680 (by decide +kernel) (by decide +kernel)
/-! ScheduleCheck$Program.clear -/
def y_Program_clear : MethodName := ⟨"ScheduleCheck$Program","clear","()V"⟩
theorem d_Program_clear_0 : decode prog_7_method_2_code 0 = .ok (.aload_n 0, 1) := by decide +kernel
theorem d_Program_clear_1 : decode prog_7_method_2_code 1 = .ok (.iconst 0, 1) := by decide +kernel
theorem d_Program_clear_2 : decode prog_7_method_2_code 2 = .ok (.putfield 35, 3) := by decide +kernel
theorem d_Program_clear_5 : decode prog_7_method_2_code 5 = .ok (.aload_n 0, 1) := by decide +kernel
theorem d_Program_clear_6 : decode prog_7_method_2_code 6 = .ok (.iconst 0, 1) := by decide +kernel
theorem d_Program_clear_7 : decode prog_7_method_2_code 7 = .ok (.putfield 39, 3) := by decide +kernel
theorem d_Program_clear_10 : decode prog_7_method_2_code 10 = .ok (.aload_n 0, 1) := by decide +kernel
theorem d_Program_clear_11 : decode prog_7_method_2_code 11 = .ok (.iconst 0, 1) := by decide +kernel
theorem d_Program_clear_12 : decode prog_7_method_2_code 12 = .ok (.putfield 42, 3) := by decide +kernel
theorem d_Program_clear_15 : decode prog_7_method_2_code 15 = .ok (.aload_n 0, 1) := by decide +kernel
theorem d_Program_clear_16 : decode prog_7_method_2_code 16 = .ok (.iconst 0, 1) := by decide +kernel
theorem d_Program_clear_17 : decode prog_7_method_2_code 17 = .ok (.putfield 45, 3) := by decide +kernel
theorem d_Program_clear_20 : decode prog_7_method_2_code 20 = .ok (.aload_n 0, 1) := by decide +kernel
theorem d_Program_clear_21 : decode prog_7_method_2_code 21 = .ok (.getfield 31, 3) := by decide +kernel
theorem d_Program_clear_24 : decode prog_7_method_2_code 24 = .ok (.iconst 0, 1) := by decide +kernel
theorem d_Program_clear_25 : decode prog_7_method_2_code 25 = .ok (.putfield 48, 3) := by decide +kernel
theorem d_Program_clear_28 : decode prog_7_method_2_code 28 = .ok (.return_, 1) := by decide +kernel
def zf_Program_clear (F : Nat) (x0 : Nat) (σ : zs_S) : Option (zs_S) :=
  zq_g (zq_k 0 x0 15) <|
  zq_v (zs_wi σ x0 0 0) fun σ2 =>
  zq_v (zs_wi σ2 x0 1 0) fun σ3 =>
  zq_v (zs_wi σ3 x0 2 0) fun σ4 =>
  zq_v (zs_wi σ4 x0 3 0) fun σ5 =>
  zq_q (zd_rf 0 x0 8) fun q6 =>
  zq_g (zq_k 0 q6 17) <|
  zq_v (zs_wi σ5 q6 3 0) fun σ8 =>
  some σ8
set_option maxHeartbeats 4000000 in
set_option maxRecDepth 100000 in
theorem zc_Program_clear {l : Launch} {D : va_G} {cA : Nat → ClassId} {ad : Nat → Nat} {A : Nat → Prop} {F : Nat} {x0 : Nat} {σ : zs_S} {q : zs_S} (hJ : zs_J ad) (hf : zf_Program_clear F x0 σ = some q) : Met l y_Program_clear (.code y_Program_clear prog_7_method_2_code 1 none :: zd_ww) { frames := 0, cells := 0, slots := 0, locals := 0 } (va_Pc [.ref (ad x0)] (zs_U 0 D cA ad A σ)) (zs_Qv 0 D cA ad A q) 0 0 A := by
  refine Met.ofW (cc := prog_7_method_2_code) (maxL := 1) (ret := none) (by decide) rfl ?_
  intro p e s m args below meth c s₁ B hml hv
  obtain ⟨hargs, hP, hK, hD, hZ⟩ := hv
  have G : zs_G 0 p s m args c prog_7_method_2_code 1 "ScheduleCheck$Program" D cA ad A := ⟨⟨B.exec, B.bytes, hml, findClass_of_methodNamed B.named, fun w h => atoms_spec B.pre w (List.mem_cons_of_mem _ h)⟩, hK, hJ, hZ⟩
  have hw : zs_I 0 D cA ad A s σ s.heap [] := ⟨hP, hD, va_S.rf⟩
  have hx := G.1.1
  have hb := G.1.2.1
  have hown := G.1.2.2.2.1
  have hts := G.1.2.2.2.2
  have hr := B.returns
  have hlocks := B.notSynchronized
  have he : entryFrame m args 1 = F0 m 0 ((lg_sl [.ref (ad x0)] ++ List.replicate (1 - (lg_sl [.ref (ad x0)]).length) Slot.unset).toArray) [] := by rw [hargs]; exact lg_entry_eq m _ 1
  have hl := lv_entry [.ref (ad x0)] (n := 1) (Nat.le_of_ble_eq_true rfl)
  rw [he]
  generalize (lg_sl [.ref (ad x0)] ++ List.replicate (1 - (lg_sl [.ref (ad x0)]).length) Slot.unset).toArray = ls at hl
  have hl : lv_has ls 1 [(0, .ref (ad x0))] := hl
  obtain ⟨RR, hR⟩ : ∃ z, z = (headSpec (.code y_Program_clear prog_7_method_2_code 1 none :: zd_ww) { frames := 0, cells := 0, slots := 0, locals := 0 }).room := ⟨_, rfl⟩
  rw [← hR]
  obtain ⟨QQ, hQ⟩ : ∃ z, z = MQ below (zs_Qv 0 D cA ad A q) args s 0 0 A := ⟨_, rfl⟩
  rw [← hQ]
  have hR1 : 0 ≤ RR.frames := by rw [hR]; exact Nat.le_refl _
  have hR2 : 0 ≤ RR.locals := by rw [hR]; exact Nat.le_refl _
  generalize s.heap = H at hw ⊢
  generalize ([] : List Loc) = locs at hw ⊢
  unfold zf_Program_clear at hf
  refine lv_aload_n hx hb d_Program_clear_0 rfl (lv_at hl 0 rfl) ?_
  refine lv_iconst (v := 0) hx hb d_Program_clear_1 (by decide) ?_
  obtain ⟨hs1, hf⟩ := zq_gs hf
  have hs1 := zq_ks hs1
  obtain ⟨σ2, e_σ2, hf⟩ := zq_ss hf
  refine zr_puti (ci := 5) G hw x0 0 zi_5 t_zd5 t_zd5_ok n_zd5 hs1 rfl rfl (by decide) rfl zm_101 (fun _ h => h) rfl (x := 0) (t_zd5_ok 0 (by decide)) rfl rfl d_Program_clear_2 (fun H locs hw => ?_)
  rw [← e_σ2] at hw
  refine lv_aload_n hx hb d_Program_clear_5 rfl (lv_at hl 0 rfl) ?_
  refine lv_iconst (v := 0) hx hb d_Program_clear_6 (by decide) ?_
  obtain ⟨σ3, e_σ3, hf⟩ := zq_ss hf
  refine zr_puti (ci := 5) G hw x0 1 zi_5 t_zd5 t_zd5_ok n_zd5 hs1 rfl rfl (by decide) rfl zm_102 (fun _ h => h) rfl (x := 0) (t_zd5_ok 1 (by decide)) rfl rfl d_Program_clear_7 (fun H locs hw => ?_)
  rw [← e_σ3] at hw
  refine lv_aload_n hx hb d_Program_clear_10 rfl (lv_at hl 0 rfl) ?_
  refine lv_iconst (v := 0) hx hb d_Program_clear_11 (by decide) ?_
  obtain ⟨σ4, e_σ4, hf⟩ := zq_ss hf
  refine zr_puti (ci := 5) G hw x0 2 zi_5 t_zd5 t_zd5_ok n_zd5 hs1 rfl rfl (by decide) rfl zm_103 (fun _ h => h) rfl (x := 0) (t_zd5_ok 2 (by decide)) rfl rfl d_Program_clear_12 (fun H locs hw => ?_)
  rw [← e_σ4] at hw
  refine lv_aload_n hx hb d_Program_clear_15 rfl (lv_at hl 0 rfl) ?_
  refine lv_iconst (v := 0) hx hb d_Program_clear_16 (by decide) ?_
  obtain ⟨σ5, e_σ5, hf⟩ := zq_ss hf
  refine zr_puti (ci := 5) G hw x0 3 zi_5 t_zd5 t_zd5_ok n_zd5 hs1 rfl rfl (by decide) rfl zm_104 (fun _ h => h) rfl (x := 0) (t_zd5_ok 3 (by decide)) rfl rfl d_Program_clear_17 (fun H locs hw => ?_)
  rw [← e_σ5] at hw
  refine lv_aload_n hx hb d_Program_clear_20 rfl (lv_at hl 0 rfl) ?_
  obtain ⟨q6, e_q6, h_q6, hf⟩ := zq_qs hf
  refine zr_get (ci := 5) G hw x0 8 zi_5 hs1 rfl rfl (by decide) zm_105 (fun _ h => h) (v := .ref (ad q6)) (zs_fs rfl e_q6 h_q6) d_Program_clear_21 ?_
  refine lv_iconst (v := 0) hx hb d_Program_clear_24 (by decide) ?_
  obtain ⟨hs7, hf⟩ := zq_gs hf
  have hs7 := zq_ks hs7
  obtain ⟨σ8, e_σ8, hf⟩ := zq_ss hf
  refine zr_puti (ci := 7) G hw q6 3 zi_7 t_zd7 t_zd7_ok n_zd7 hs7 rfl rfl (by decide) rfl zm_106 (fun _ h => h) rfl (x := 0) (t_zd7_ok 3 (by decide)) rfl rfl d_Program_clear_25 (fun H locs hw => ?_)
  rw [← e_σ8] at hw
  exact zr_vret G hw hr hlocks hf hQ d_Program_clear_28
/-! ScheduleCheck$Program.hasVariable -/
def y_Program_hasVariable : MethodName := ⟨"ScheduleCheck$Program","hasVariable","(I)Z"⟩
theorem d_Program_hasVariable_0 : decode prog_7_method_3_code 0 = .ok (.iload_n 1, 1) := by decide +kernel
theorem d_Program_hasVariable_1 : decode prog_7_method_3_code 1 = .ok (.ifCond .lt 15, 3) := by decide +kernel
theorem d_Program_hasVariable_4 : decode prog_7_method_3_code 4 = .ok (.iload_n 1, 1) := by decide +kernel
theorem d_Program_hasVariable_5 : decode prog_7_method_3_code 5 = .ok (.aload_n 0, 1) := by decide +kernel
theorem d_Program_hasVariable_6 : decode prog_7_method_3_code 6 = .ok (.getfield 35, 3) := by decide +kernel
theorem d_Program_hasVariable_9 : decode prog_7_method_3_code 9 = .ok (.if_icmp .ge 7, 3) := by decide +kernel
theorem d_Program_hasVariable_12 : decode prog_7_method_3_code 12 = .ok (.iconst 1, 1) := by decide +kernel
theorem d_Program_hasVariable_13 : decode prog_7_method_3_code 13 = .ok (.goto 4, 3) := by decide +kernel
theorem d_Program_hasVariable_16 : decode prog_7_method_3_code 16 = .ok (.iconst 0, 1) := by decide +kernel
theorem d_Program_hasVariable_17 : decode prog_7_method_3_code 17 = .ok (.ireturn, 1) := by decide +kernel
def zf_Program_hasVariable_17 (F : Nat)  (t0 : Int32) (σ : zs_S) : Option (Int32 × zs_S) :=
  zq_g (zq_z t0) <|
  some (t0, σ)
def zf_Program_hasVariable_16 (F : Nat)   (σ : zs_S) : Option (Int32 × zs_S) :=
  zf_Program_hasVariable_17 F 0 σ
def zf_Program_hasVariable (F : Nat) (x0 : Nat) (x1 : Int32) (σ : zs_S) : Option (Int32 × zs_S) :=
  if x1 < 0 then (
    zf_Program_hasVariable_16 F σ
  ) else (
    zq_g (zq_k 0 x0 15) <|
    if (zs_i σ x0 0) ≤ x1 then (
      zf_Program_hasVariable_16 F σ
    ) else (
      zf_Program_hasVariable_17 F 1 σ
    )
  )
set_option maxHeartbeats 4000000 in
set_option maxRecDepth 100000 in
theorem zc_Program_hasVariable {l : Launch} {D : va_G} {cA : Nat → ClassId} {ad : Nat → Nat} {A : Nat → Prop} {F : Nat} {x0 : Nat} {x1 : Int32} {σ : zs_S} {q : Int32 × zs_S} (hJ : zs_J ad) (hf : zf_Program_hasVariable F x0 x1 σ = some q) : Met l y_Program_hasVariable (.code y_Program_hasVariable prog_7_method_3_code 2 (some .boolean) :: zd_ww) { frames := 0, cells := 0, slots := 0, locals := 0 } (va_Pc [.ref (ad x0), .int x1] (zs_U 0 D cA ad A σ)) (zs_Qi 0 D cA ad A q) 0 0 A := by
  refine Met.ofW (cc := prog_7_method_3_code) (maxL := 2) (ret := (some .boolean)) (by decide) rfl ?_
  intro p e s m args below meth c s₁ B hml hv
  obtain ⟨hargs, hP, hK, hD, hZ⟩ := hv
  have G : zs_G 0 p s m args c prog_7_method_3_code 2 "ScheduleCheck$Program" D cA ad A := ⟨⟨B.exec, B.bytes, hml, findClass_of_methodNamed B.named, fun w h => atoms_spec B.pre w (List.mem_cons_of_mem _ h)⟩, hK, hJ, hZ⟩
  have hw : zs_I 0 D cA ad A s σ s.heap [] := ⟨hP, hD, va_S.rf⟩
  have hx := G.1.1
  have hb := G.1.2.1
  have hown := G.1.2.2.2.1
  have hts := G.1.2.2.2.2
  have hr := B.returns
  have hlocks := B.notSynchronized
  have he : entryFrame m args 2 = F0 m 0 ((lg_sl [.ref (ad x0), .int x1] ++ List.replicate (2 - (lg_sl [.ref (ad x0), .int x1]).length) Slot.unset).toArray) [] := by rw [hargs]; exact lg_entry_eq m _ 2
  have hl := lv_entry [.ref (ad x0), .int x1] (n := 2) (Nat.le_of_ble_eq_true rfl)
  rw [he]
  generalize (lg_sl [.ref (ad x0), .int x1] ++ List.replicate (2 - (lg_sl [.ref (ad x0), .int x1]).length) Slot.unset).toArray = ls at hl
  have hl : lv_has ls 2 [(0, .ref (ad x0)), (1, .int x1)] := hl
  obtain ⟨RR, hR⟩ : ∃ z, z = (headSpec (.code y_Program_hasVariable prog_7_method_3_code 2 (some .boolean) :: zd_ww) { frames := 0, cells := 0, slots := 0, locals := 0 }).room := ⟨_, rfl⟩
  rw [← hR]
  obtain ⟨QQ, hQ⟩ : ∃ z, z = MQ below (zs_Qi 0 D cA ad A q) args s 0 0 A := ⟨_, rfl⟩
  rw [← hQ]
  have hR1 : 0 ≤ RR.frames := by rw [hR]; exact Nat.le_refl _
  have hR2 : 0 ≤ RR.locals := by rw [hR]; exact Nat.le_refl _
  generalize s.heap = H at hw ⊢
  generalize ([] : List Loc) = locs at hw ⊢
  have K17 : ∀ (t0 : Int32) (σ : zs_S) (H : Heap) (locs : List Loc) (ls : Array Slot), zf_Program_hasVariable_17 F t0 σ = some q → zs_I 0 D cA ad A s σ H locs → lv_has ls 2 [] → W p l e RR s m args below meth c H locs 0 0 QQ (F0 m 17 ls [.int t0]) := by
    intro  t0 σ H locs ls hf hw hl
    unfold zf_Program_hasVariable_17 at hf
    obtain ⟨hz, hf⟩ := zq_gs hf
    exact zr_zret G hw hr hlocks hz hf hQ d_Program_hasVariable_17
  have K16 : ∀ (σ : zs_S) (H : Heap) (locs : List Loc) (ls : Array Slot), zf_Program_hasVariable_16 F σ = some q → zs_I 0 D cA ad A s σ H locs → lv_has ls 2 [] → W p l e RR s m args below meth c H locs 0 0 QQ (F0 m 16 ls []) := by
    intro   σ H locs ls hf hw hl
    unfold zf_Program_hasVariable_16 at hf
    refine lv_iconst (v := 0) hx hb d_Program_hasVariable_16 (by decide) ?_
    exact K17 0 σ H locs ls hf hw (lv_sub hl [] rfl)
  unfold zf_Program_hasVariable at hf
  refine lv_iload_n hx hb d_Program_hasVariable_0 rfl (lv_at hl 1 rfl) ?_
  refine lv_if_lt hx hb d_Program_hasVariable_1 (tgt := 16) rfl (fun hc => ?_) (fun hc => ?_)
  · have hf := (if_pos hc).symm.trans hf
    exact K16 σ H locs ls hf hw (lv_sub hl [] rfl)
  · have hf := (if_neg hc).symm.trans hf
    refine lv_iload_n hx hb d_Program_hasVariable_4 rfl (lv_at hl 1 rfl) ?_
    refine lv_aload_n hx hb d_Program_hasVariable_5 rfl (lv_at hl 0 rfl) ?_
    obtain ⟨hs1, hf⟩ := zq_gs hf
    have hs1 := zq_ks hs1
    refine zr_get (ci := 5) G hw x0 0 zi_5 hs1 rfl rfl (by decide) zm_101 (fun _ h => h) (v := .int (zs_i σ x0 0)) rfl d_Program_hasVariable_6 ?_
    refine lv_icmp_ge hx hb d_Program_hasVariable_9 (tgt := 16) rfl (fun hc => ?_) (fun hc => ?_)
    · have hf := (if_pos hc).symm.trans hf
      exact K16 σ H locs ls hf hw (lv_sub hl [] rfl)
    · have hf := (if_neg hc).symm.trans hf
      refine lv_iconst (v := 1) hx hb d_Program_hasVariable_12 (by decide) ?_
      refine lv_goto hx hb d_Program_hasVariable_13 (tgt := 17) rfl ?_
      exact K17 1 σ H locs ls hf hw (lv_sub hl [] rfl)
/-! ScheduleCheck$Program.hasThread -/
def y_Program_hasThread : MethodName := ⟨"ScheduleCheck$Program","hasThread","(I)Z"⟩
theorem d_Program_hasThread_0 : decode prog_7_method_4_code 0 = .ok (.iload_n 1, 1) := by decide +kernel
theorem d_Program_hasThread_1 : decode prog_7_method_4_code 1 = .ok (.ifCond .lt 15, 3) := by decide +kernel
theorem d_Program_hasThread_4 : decode prog_7_method_4_code 4 = .ok (.iload_n 1, 1) := by decide +kernel
theorem d_Program_hasThread_5 : decode prog_7_method_4_code 5 = .ok (.aload_n 0, 1) := by decide +kernel
theorem d_Program_hasThread_6 : decode prog_7_method_4_code 6 = .ok (.getfield 42, 3) := by decide +kernel
theorem d_Program_hasThread_9 : decode prog_7_method_4_code 9 = .ok (.if_icmp .ge 7, 3) := by decide +kernel
theorem d_Program_hasThread_12 : decode prog_7_method_4_code 12 = .ok (.iconst 1, 1) := by decide +kernel
theorem d_Program_hasThread_13 : decode prog_7_method_4_code 13 = .ok (.goto 4, 3) := by decide +kernel
theorem d_Program_hasThread_16 : decode prog_7_method_4_code 16 = .ok (.iconst 0, 1) := by decide +kernel
theorem d_Program_hasThread_17 : decode prog_7_method_4_code 17 = .ok (.ireturn, 1) := by decide +kernel
def zf_Program_hasThread_17 (F : Nat)  (t0 : Int32) (σ : zs_S) : Option (Int32 × zs_S) :=
  zq_g (zq_z t0) <|
  some (t0, σ)
def zf_Program_hasThread_16 (F : Nat)   (σ : zs_S) : Option (Int32 × zs_S) :=
  zf_Program_hasThread_17 F 0 σ
def zf_Program_hasThread (F : Nat) (x0 : Nat) (x1 : Int32) (σ : zs_S) : Option (Int32 × zs_S) :=
  if x1 < 0 then (
    zf_Program_hasThread_16 F σ
  ) else (
    zq_g (zq_k 0 x0 15) <|
    if (zs_i σ x0 2) ≤ x1 then (
      zf_Program_hasThread_16 F σ
    ) else (
      zf_Program_hasThread_17 F 1 σ
    )
  )
set_option maxHeartbeats 4000000 in
set_option maxRecDepth 100000 in
theorem zc_Program_hasThread {l : Launch} {D : va_G} {cA : Nat → ClassId} {ad : Nat → Nat} {A : Nat → Prop} {F : Nat} {x0 : Nat} {x1 : Int32} {σ : zs_S} {q : Int32 × zs_S} (hJ : zs_J ad) (hf : zf_Program_hasThread F x0 x1 σ = some q) : Met l y_Program_hasThread (.code y_Program_hasThread prog_7_method_4_code 2 (some .boolean) :: zd_ww) { frames := 0, cells := 0, slots := 0, locals := 0 } (va_Pc [.ref (ad x0), .int x1] (zs_U 0 D cA ad A σ)) (zs_Qi 0 D cA ad A q) 0 0 A := by
  refine Met.ofW (cc := prog_7_method_4_code) (maxL := 2) (ret := (some .boolean)) (by decide) rfl ?_
  intro p e s m args below meth c s₁ B hml hv
  obtain ⟨hargs, hP, hK, hD, hZ⟩ := hv
  have G : zs_G 0 p s m args c prog_7_method_4_code 2 "ScheduleCheck$Program" D cA ad A := ⟨⟨B.exec, B.bytes, hml, findClass_of_methodNamed B.named, fun w h => atoms_spec B.pre w (List.mem_cons_of_mem _ h)⟩, hK, hJ, hZ⟩
  have hw : zs_I 0 D cA ad A s σ s.heap [] := ⟨hP, hD, va_S.rf⟩
  have hx := G.1.1
  have hb := G.1.2.1
  have hown := G.1.2.2.2.1
  have hts := G.1.2.2.2.2
  have hr := B.returns
  have hlocks := B.notSynchronized
  have he : entryFrame m args 2 = F0 m 0 ((lg_sl [.ref (ad x0), .int x1] ++ List.replicate (2 - (lg_sl [.ref (ad x0), .int x1]).length) Slot.unset).toArray) [] := by rw [hargs]; exact lg_entry_eq m _ 2
  have hl := lv_entry [.ref (ad x0), .int x1] (n := 2) (Nat.le_of_ble_eq_true rfl)
  rw [he]
  generalize (lg_sl [.ref (ad x0), .int x1] ++ List.replicate (2 - (lg_sl [.ref (ad x0), .int x1]).length) Slot.unset).toArray = ls at hl
  have hl : lv_has ls 2 [(0, .ref (ad x0)), (1, .int x1)] := hl
  obtain ⟨RR, hR⟩ : ∃ z, z = (headSpec (.code y_Program_hasThread prog_7_method_4_code 2 (some .boolean) :: zd_ww) { frames := 0, cells := 0, slots := 0, locals := 0 }).room := ⟨_, rfl⟩
  rw [← hR]
  obtain ⟨QQ, hQ⟩ : ∃ z, z = MQ below (zs_Qi 0 D cA ad A q) args s 0 0 A := ⟨_, rfl⟩
  rw [← hQ]
  have hR1 : 0 ≤ RR.frames := by rw [hR]; exact Nat.le_refl _
  have hR2 : 0 ≤ RR.locals := by rw [hR]; exact Nat.le_refl _
  generalize s.heap = H at hw ⊢
  generalize ([] : List Loc) = locs at hw ⊢
  have K17 : ∀ (t0 : Int32) (σ : zs_S) (H : Heap) (locs : List Loc) (ls : Array Slot), zf_Program_hasThread_17 F t0 σ = some q → zs_I 0 D cA ad A s σ H locs → lv_has ls 2 [] → W p l e RR s m args below meth c H locs 0 0 QQ (F0 m 17 ls [.int t0]) := by
    intro  t0 σ H locs ls hf hw hl
    unfold zf_Program_hasThread_17 at hf
    obtain ⟨hz, hf⟩ := zq_gs hf
    exact zr_zret G hw hr hlocks hz hf hQ d_Program_hasThread_17
  have K16 : ∀ (σ : zs_S) (H : Heap) (locs : List Loc) (ls : Array Slot), zf_Program_hasThread_16 F σ = some q → zs_I 0 D cA ad A s σ H locs → lv_has ls 2 [] → W p l e RR s m args below meth c H locs 0 0 QQ (F0 m 16 ls []) := by
    intro   σ H locs ls hf hw hl
    unfold zf_Program_hasThread_16 at hf
    refine lv_iconst (v := 0) hx hb d_Program_hasThread_16 (by decide) ?_
    exact K17 0 σ H locs ls hf hw (lv_sub hl [] rfl)
  unfold zf_Program_hasThread at hf
  refine lv_iload_n hx hb d_Program_hasThread_0 rfl (lv_at hl 1 rfl) ?_
  refine lv_if_lt hx hb d_Program_hasThread_1 (tgt := 16) rfl (fun hc => ?_) (fun hc => ?_)
  · have hf := (if_pos hc).symm.trans hf
    exact K16 σ H locs ls hf hw (lv_sub hl [] rfl)
  · have hf := (if_neg hc).symm.trans hf
    refine lv_iload_n hx hb d_Program_hasThread_4 rfl (lv_at hl 1 rfl) ?_
    refine lv_aload_n hx hb d_Program_hasThread_5 rfl (lv_at hl 0 rfl) ?_
    obtain ⟨hs1, hf⟩ := zq_gs hf
    have hs1 := zq_ks hs1
    refine zr_get (ci := 5) G hw x0 2 zi_5 hs1 rfl rfl (by decide) zm_103 (fun _ h => h) (v := .int (zs_i σ x0 2)) rfl d_Program_hasThread_6 ?_
    refine lv_icmp_ge hx hb d_Program_hasThread_9 (tgt := 16) rfl (fun hc => ?_) (fun hc => ?_)
    · have hf := (if_pos hc).symm.trans hf
      exact K16 σ H locs ls hf hw (lv_sub hl [] rfl)
    · have hf := (if_neg hc).symm.trans hf
      refine lv_iconst (v := 1) hx hb d_Program_hasThread_12 (by decide) ?_
      refine lv_goto hx hb d_Program_hasThread_13 (tgt := 17) rfl ?_
      exact K17 1 σ H locs ls hf hw (lv_sub hl [] rfl)
/-! ScheduleCheck$Program.behindBlock -/
def y_Program_behindBlock : MethodName := ⟨"ScheduleCheck$Program","behindBlock","(I)I"⟩
theorem d_Program_behindBlock_0 : decode prog_7_method_6_code 0 = .ok (.iload_n 1, 1) := by decide +kernel
theorem d_Program_behindBlock_1 : decode prog_7_method_6_code 1 = .ok (.iconst (-1), 1) := by decide +kernel
theorem d_Program_behindBlock_2 : decode prog_7_method_6_code 2 = .ok (.if_icmp .ne 5, 3) := by decide +kernel
theorem d_Program_behindBlock_5 : decode prog_7_method_6_code 5 = .ok (.iconst (-1), 1) := by decide +kernel
theorem d_Program_behindBlock_6 : decode prog_7_method_6_code 6 = .ok (.ireturn, 1) := by decide +kernel
theorem d_Program_behindBlock_7 : decode prog_7_method_6_code 7 = .ok (.aload_n 0, 1) := by decide +kernel
theorem d_Program_behindBlock_8 : decode prog_7_method_6_code 8 = .ok (.getfield 23, 3) := by decide +kernel
theorem d_Program_behindBlock_11 : decode prog_7_method_6_code 11 = .ok (.iload_n 1, 1) := by decide +kernel
theorem d_Program_behindBlock_12 : decode prog_7_method_6_code 12 = .ok (.aaload, 1) := by decide +kernel
theorem d_Program_behindBlock_13 : decode prog_7_method_6_code 13 = .ok (.getfield 62, 3) := by decide +kernel
theorem d_Program_behindBlock_16 : decode prog_7_method_6_code 16 = .ok (.getstatic 66, 3) := by decide +kernel
theorem d_Program_behindBlock_19 : decode prog_7_method_6_code 19 = .ok (.if_acmp .ne 7, 3) := by decide +kernel
theorem d_Program_behindBlock_22 : decode prog_7_method_6_code 22 = .ok (.iload_n 1, 1) := by decide +kernel
theorem d_Program_behindBlock_23 : decode prog_7_method_6_code 23 = .ok (.goto 12, 3) := by decide +kernel
theorem d_Program_behindBlock_26 : decode prog_7_method_6_code 26 = .ok (.aload_n 0, 1) := by decide +kernel
theorem d_Program_behindBlock_27 : decode prog_7_method_6_code 27 = .ok (.getfield 23, 3) := by decide +kernel
theorem d_Program_behindBlock_30 : decode prog_7_method_6_code 30 = .ok (.iload_n 1, 1) := by decide +kernel
theorem d_Program_behindBlock_31 : decode prog_7_method_6_code 31 = .ok (.aaload, 1) := by decide +kernel
theorem d_Program_behindBlock_32 : decode prog_7_method_6_code 32 = .ok (.getfield 49, 3) := by decide +kernel
theorem d_Program_behindBlock_35 : decode prog_7_method_6_code 35 = .ok (.ireturn, 1) := by decide +kernel
def zf_Program_behindBlock_35 (F : Nat)  (t0 : Int32) (σ : zs_S) : Option (Int32 × zs_S) :=
  some (t0, σ)
def zf_Program_behindBlock (F : Nat) (x0 : Nat) (x1 : Int32) (σ : zs_S) : Option (Int32 × zs_S) :=
  if x1 = ((-1)) then (
    some ((-1), σ)
  ) else (
    zq_g (zq_k 0 x0 15) <|
    zq_q (zd_rf 0 x0 7) fun q2 =>
    zq_g (zq_k 0 q2 5) <|
    zq_g (zq_b x1 (zd_sh 0 q2).2) <|
    zq_q (zd_rf 0 q2 (x1).toNatClampNeg) fun q5 =>
    zq_g (zq_k 0 q5 16) <|
    zq_q (zs_r σ q5 0) fun q7 =>
    zq_g (decide (q7 < 1200)) <|
    if q7 = 1108 then (
      zf_Program_behindBlock_35 F x1 σ
    ) else (
      zq_q (zd_rf 0 x0 7) fun q9 =>
      zq_g (zq_k 0 q9 5) <|
      zq_g (zq_b x1 (zd_sh 0 q9).2) <|
      zq_q (zd_rf 0 q9 (x1).toNatClampNeg) fun q12 =>
      zq_g (zq_k 0 q12 16) <|
      zf_Program_behindBlock_35 F (zs_i σ q12 7) σ
    )
  )
set_option maxHeartbeats 4000000 in
set_option maxRecDepth 100000 in
theorem zc_Program_behindBlock {l : Launch} {D : va_G} {cA : Nat → ClassId} {ad : Nat → Nat} {A : Nat → Prop} {F : Nat} {x0 : Nat} {x1 : Int32} {σ : zs_S} {q : Int32 × zs_S} (hJ : zs_J ad) (hf : zf_Program_behindBlock F x0 x1 σ = some q) : Met l y_Program_behindBlock (.code y_Program_behindBlock prog_7_method_6_code 2 (some .int) :: zd_ww) { frames := 0, cells := 0, slots := 0, locals := 0 } (va_Pc [.ref (ad x0), .int x1] (zs_U 0 D cA ad A σ)) (zs_Qi 0 D cA ad A q) 0 0 A := by
  refine Met.ofW (cc := prog_7_method_6_code) (maxL := 2) (ret := (some .int)) (by decide) rfl ?_
  intro p e s m args below meth c s₁ B hml hv
  obtain ⟨hargs, hP, hK, hD, hZ⟩ := hv
  have G : zs_G 0 p s m args c prog_7_method_6_code 2 "ScheduleCheck$Program" D cA ad A := ⟨⟨B.exec, B.bytes, hml, findClass_of_methodNamed B.named, fun w h => atoms_spec B.pre w (List.mem_cons_of_mem _ h)⟩, hK, hJ, hZ⟩
  have hw : zs_I 0 D cA ad A s σ s.heap [] := ⟨hP, hD, va_S.rf⟩
  have hx := G.1.1
  have hb := G.1.2.1
  have hown := G.1.2.2.2.1
  have hts := G.1.2.2.2.2
  have hr := B.returns
  have hlocks := B.notSynchronized
  have he : entryFrame m args 2 = F0 m 0 ((lg_sl [.ref (ad x0), .int x1] ++ List.replicate (2 - (lg_sl [.ref (ad x0), .int x1]).length) Slot.unset).toArray) [] := by rw [hargs]; exact lg_entry_eq m _ 2
  have hl := lv_entry [.ref (ad x0), .int x1] (n := 2) (Nat.le_of_ble_eq_true rfl)
  rw [he]
  generalize (lg_sl [.ref (ad x0), .int x1] ++ List.replicate (2 - (lg_sl [.ref (ad x0), .int x1]).length) Slot.unset).toArray = ls at hl
  have hl : lv_has ls 2 [(0, .ref (ad x0)), (1, .int x1)] := hl
  obtain ⟨RR, hR⟩ : ∃ z, z = (headSpec (.code y_Program_behindBlock prog_7_method_6_code 2 (some .int) :: zd_ww) { frames := 0, cells := 0, slots := 0, locals := 0 }).room := ⟨_, rfl⟩
  rw [← hR]
  obtain ⟨QQ, hQ⟩ : ∃ z, z = MQ below (zs_Qi 0 D cA ad A q) args s 0 0 A := ⟨_, rfl⟩
  rw [← hQ]
  have hR1 : 0 ≤ RR.frames := by rw [hR]; exact Nat.le_refl _
  have hR2 : 0 ≤ RR.locals := by rw [hR]; exact Nat.le_refl _
  generalize s.heap = H at hw ⊢
  generalize ([] : List Loc) = locs at hw ⊢
  have K35 : ∀ (t0 : Int32) (σ : zs_S) (H : Heap) (locs : List Loc) (ls : Array Slot), zf_Program_behindBlock_35 F t0 σ = some q → zs_I 0 D cA ad A s σ H locs → lv_has ls 2 [] → W p l e RR s m args below meth c H locs 0 0 QQ (F0 m 35 ls [.int t0]) := by
    intro  t0 σ H locs ls hf hw hl
    unfold zf_Program_behindBlock_35 at hf
    exact zr_iret G hw hr hlocks hf hQ d_Program_behindBlock_35
  unfold zf_Program_behindBlock at hf
  refine lv_iload_n hx hb d_Program_behindBlock_0 rfl (lv_at hl 1 rfl) ?_
  refine lv_iconst (v := (-1)) hx hb d_Program_behindBlock_1 (by decide) ?_
  refine lv_icmp_ne hx hb d_Program_behindBlock_2 (tgt := 7) rfl (fun hc => ?_) (fun hc => ?_)
  · have hf := (if_neg hc).symm.trans hf
    refine lv_aload_n hx hb d_Program_behindBlock_7 rfl (lv_at hl 0 rfl) ?_
    obtain ⟨hs1, hf⟩ := zq_gs hf
    have hs1 := zq_ks hs1
    obtain ⟨q2, e_q2, h_q2, hf⟩ := zq_qs hf
    refine zr_get (ci := 5) G hw x0 7 zi_5 hs1 rfl rfl (by decide) zm_107 (fun _ h => h) (v := .ref (ad q2)) (zs_fs rfl e_q2 h_q2) d_Program_behindBlock_8 ?_
    refine lv_iload_n hx hb d_Program_behindBlock_11 rfl (lv_at hl 1 rfl) ?_
    obtain ⟨hs3, hf⟩ := zq_gs hf
    have hs3 := zq_ks hs3
    obtain ⟨hi4, hf⟩ := zq_gs hf
    obtain ⟨q5, e_q5, h_q5, hf⟩ := zq_qs hf
    refine zr_aald5 G hw q2 hs3 rfl hi4 (by rw [← e_q5]; exact h_q5) d_Program_behindBlock_12 ?_
    rw [← e_q5]
    obtain ⟨hs6, hf⟩ := zq_gs hf
    have hs6 := zq_ks hs6
    obtain ⟨q7, e_q7, h_q7, hf⟩ := zq_qs hf
    refine zr_get (ci := 6) G hw q5 0 zi_6 hs6 rfl rfl (by decide) zm_108 (fun _ h => h) (v := .ref (ad q7)) (zs_fr rfl e_q7 h_q7) d_Program_behindBlock_13 ?_
    refine va_gets (C := "ScheduleCheck$Kind") (n := "WHILE") (d := "LScheduleCheck$Kind;") (v := .ref (ad 1108)) hx hb ((G.2.2.2.1 rfl).2.2.1.1 8 (by decide)).1 hw.2.2 hown (hts _ zm_109) (fun _ h => h) d_Program_behindBlock_16 ?_
    obtain ⟨hm8, hf⟩ := zq_gs hf
    refine zr_ane G (of_decide_eq_true hm8) (by decide) d_Program_behindBlock_19 (tgt := 26) rfl (fun hc => ?_) (fun hc => ?_)
    · have hf := (if_neg hc).symm.trans hf
      refine lv_aload_n hx hb d_Program_behindBlock_26 rfl (lv_at hl 0 rfl) ?_
      obtain ⟨q9, e_q9, h_q9, hf⟩ := zq_qs hf
      refine zr_get (ci := 5) G hw x0 7 zi_5 hs1 rfl rfl (by decide) zm_107 (fun _ h => h) (v := .ref (ad q9)) (zs_fs rfl e_q9 h_q9) d_Program_behindBlock_27 ?_
      refine lv_iload_n hx hb d_Program_behindBlock_30 rfl (lv_at hl 1 rfl) ?_
      obtain ⟨hs10, hf⟩ := zq_gs hf
      have hs10 := zq_ks hs10
      obtain ⟨hi11, hf⟩ := zq_gs hf
      obtain ⟨q12, e_q12, h_q12, hf⟩ := zq_qs hf
      refine zr_aald5 G hw q9 hs10 rfl hi11 (by rw [← e_q12]; exact h_q12) d_Program_behindBlock_31 ?_
      rw [← e_q12]
      obtain ⟨hs13, hf⟩ := zq_gs hf
      have hs13 := zq_ks hs13
      refine zr_get (ci := 6) G hw q12 7 zi_6 hs13 rfl rfl (by decide) zm_110 (fun _ h => h) (v := .int (zs_i σ q12 7)) rfl d_Program_behindBlock_32 ?_
      exact K35 (zs_i σ q12 7) σ H locs ls hf hw (lv_sub hl [] rfl)
    · have hf := (if_pos hc).symm.trans hf
      refine lv_iload_n hx hb d_Program_behindBlock_22 rfl (lv_at hl 1 rfl) ?_
      refine lv_goto hx hb d_Program_behindBlock_23 (tgt := 35) rfl ?_
      exact K35 x1 σ H locs ls hf hw (lv_sub hl [] rfl)
  · have hf := (if_pos hc).symm.trans hf
    refine lv_iconst (v := (-1)) hx hb d_Program_behindBlock_5 (by decide) ?_
    exact zr_iret G hw hr hlocks hf hQ d_Program_behindBlock_6
/-! ScheduleCheck$Program.settleWays -/
def y_Program_settleWays : MethodName := ⟨"ScheduleCheck$Program","settleWays","()V"⟩
theorem d_Program_settleWays_0 : decode prog_7_method_5_code 0 = .ok (.iconst 0, 1) := by decide +kernel
theorem d_Program_settleWays_1 : decode prog_7_method_5_code 1 = .ok (.istore_n 1, 1) := by decide +kernel
theorem d_Program_settleWays_2 : decode prog_7_method_5_code 2 = .ok (.iload_n 1, 1) := by decide +kernel
theorem d_Program_settleWays_3 : decode prog_7_method_5_code 3 = .ok (.aload_n 0, 1) := by decide +kernel
theorem d_Program_settleWays_4 : decode prog_7_method_5_code 4 = .ok (.getfield 45, 3) := by decide +kernel
theorem d_Program_settleWays_7 : decode prog_7_method_5_code 7 = .ok (.if_icmp .ge 85, 3) := by decide +kernel
theorem d_Program_settleWays_10 : decode prog_7_method_5_code 10 = .ok (.aload_n 0, 1) := by decide +kernel
theorem d_Program_settleWays_11 : decode prog_7_method_5_code 11 = .ok (.getfield 23, 3) := by decide +kernel
theorem d_Program_settleWays_14 : decode prog_7_method_5_code 14 = .ok (.iload_n 1, 1) := by decide +kernel
theorem d_Program_settleWays_15 : decode prog_7_method_5_code 15 = .ok (.aaload, 1) := by decide +kernel
theorem d_Program_settleWays_16 : decode prog_7_method_5_code 16 = .ok (.astore_n 2, 1) := by decide +kernel
theorem d_Program_settleWays_17 : decode prog_7_method_5_code 17 = .ok (.aload_n 2, 1) := by decide +kernel
theorem d_Program_settleWays_18 : decode prog_7_method_5_code 18 = .ok (.getfield 49, 3) := by decide +kernel
theorem d_Program_settleWays_21 : decode prog_7_method_5_code 21 = .ok (.bipush (-2), 2) := by decide +kernel
theorem d_Program_settleWays_23 : decode prog_7_method_5_code 23 = .ok (.if_icmp .ne 15, 3) := by decide +kernel
theorem d_Program_settleWays_26 : decode prog_7_method_5_code 26 = .ok (.aload_n 2, 1) := by decide +kernel
theorem d_Program_settleWays_27 : decode prog_7_method_5_code 27 = .ok (.aload_n 0, 1) := by decide +kernel
theorem d_Program_settleWays_28 : decode prog_7_method_5_code 28 = .ok (.aload_n 2, 1) := by decide +kernel
theorem d_Program_settleWays_29 : decode prog_7_method_5_code 29 = .ok (.getfield 52, 3) := by decide +kernel
theorem d_Program_settleWays_32 : decode prog_7_method_5_code 32 = .ok (.invokevirtual 55, 3) := by decide +kernel
theorem d_Program_settleWays_35 : decode prog_7_method_5_code 35 = .ok (.putfield 49, 3) := by decide +kernel
theorem d_Program_settleWays_38 : decode prog_7_method_5_code 38 = .ok (.aload_n 2, 1) := by decide +kernel
theorem d_Program_settleWays_39 : decode prog_7_method_5_code 39 = .ok (.getfield 59, 3) := by decide +kernel
theorem d_Program_settleWays_42 : decode prog_7_method_5_code 42 = .ok (.bipush (-2), 2) := by decide +kernel
theorem d_Program_settleWays_44 : decode prog_7_method_5_code 44 = .ok (.if_icmp .ne 25, 3) := by decide +kernel
theorem d_Program_settleWays_47 : decode prog_7_method_5_code 47 = .ok (.aload_n 2, 1) := by decide +kernel
theorem d_Program_settleWays_48 : decode prog_7_method_5_code 48 = .ok (.aload_n 2, 1) := by decide +kernel
theorem d_Program_settleWays_49 : decode prog_7_method_5_code 49 = .ok (.getfield 62, 3) := by decide +kernel
theorem d_Program_settleWays_52 : decode prog_7_method_5_code 52 = .ok (.getstatic 66, 3) := by decide +kernel
theorem d_Program_settleWays_55 : decode prog_7_method_5_code 55 = .ok (.if_acmp .ne 7, 3) := by decide +kernel
theorem d_Program_settleWays_58 : decode prog_7_method_5_code 58 = .ok (.iload_n 1, 1) := by decide +kernel
theorem d_Program_settleWays_59 : decode prog_7_method_5_code 59 = .ok (.goto 7, 3) := by decide +kernel
theorem d_Program_settleWays_62 : decode prog_7_method_5_code 62 = .ok (.aload_n 2, 1) := by decide +kernel
theorem d_Program_settleWays_63 : decode prog_7_method_5_code 63 = .ok (.getfield 49, 3) := by decide +kernel
theorem d_Program_settleWays_66 : decode prog_7_method_5_code 66 = .ok (.putfield 59, 3) := by decide +kernel
theorem d_Program_settleWays_69 : decode prog_7_method_5_code 69 = .ok (.aload_n 2, 1) := by decide +kernel
theorem d_Program_settleWays_70 : decode prog_7_method_5_code 70 = .ok (.getfield 71, 3) := by decide +kernel
theorem d_Program_settleWays_73 : decode prog_7_method_5_code 73 = .ok (.bipush (-2), 2) := by decide +kernel
theorem d_Program_settleWays_75 : decode prog_7_method_5_code 75 = .ok (.if_icmp .ne 11, 3) := by decide +kernel
theorem d_Program_settleWays_78 : decode prog_7_method_5_code 78 = .ok (.aload_n 2, 1) := by decide +kernel
theorem d_Program_settleWays_79 : decode prog_7_method_5_code 79 = .ok (.aload_n 2, 1) := by decide +kernel
theorem d_Program_settleWays_80 : decode prog_7_method_5_code 80 = .ok (.getfield 49, 3) := by decide +kernel
theorem d_Program_settleWays_83 : decode prog_7_method_5_code 83 = .ok (.putfield 71, 3) := by decide +kernel
theorem d_Program_settleWays_86 : decode prog_7_method_5_code 86 = .ok (.iinc 1 1, 3) := by decide +kernel
theorem d_Program_settleWays_89 : decode prog_7_method_5_code 89 = .ok (.goto (-87), 3) := by decide +kernel
theorem d_Program_settleWays_92 : decode prog_7_method_5_code 92 = .ok (.return_, 1) := by decide +kernel
def zf_Program_settleWays_86 (F : Nat) (k2 : Nat → Int32 → zs_S → Option (zs_S)) (x0 : Nat) (x1 : Int32) (σ : zs_S) : Option (zs_S) :=
  zq_v (x1 + 1) fun v18 =>
  k2 x0 v18 σ
def zf_Program_settleWays_69 (F : Nat) (k2 : Nat → Int32 → zs_S → Option (zs_S)) (x0 : Nat) (x1 : Int32) (x2 : Nat) (σ : zs_S) : Option (zs_S) :=
  zq_g (zq_k 0 x2 16) <|
  if (zs_i σ x2 6) = ((-2)) then (
    zq_v (zs_wi σ x2 6 (zs_i σ x2 7)) fun σ17 =>
    zf_Program_settleWays_86 F k2 x0 x1 σ17
  ) else (
    zf_Program_settleWays_86 F k2 x0 x1 σ
  )
def zf_Program_settleWays_66 (F : Nat) (k2 : Nat → Int32 → zs_S → Option (zs_S)) (x0 : Nat) (x1 : Int32) (x2 : Nat) (t0 : Int32) (t1 : Nat) (σ : zs_S) : Option (zs_S) :=
  zq_g (zq_k 0 t1 16) <|
  zq_v (zs_wi σ t1 5 t0) fun σ15 =>
  zf_Program_settleWays_69 F k2 x0 x1 x2 σ15
def zf_Program_settleWays_38 (F : Nat) (k2 : Nat → Int32 → zs_S → Option (zs_S)) (x0 : Nat) (x1 : Int32) (x2 : Nat) (σ : zs_S) : Option (zs_S) :=
  zq_g (zq_k 0 x2 16) <|
  if (zs_i σ x2 5) = ((-2)) then (
    zq_q (zs_r σ x2 0) fun q12 =>
    zq_g (decide (q12 < 1200)) <|
    if q12 = 1108 then (
      zf_Program_settleWays_66 F k2 x0 x1 x2 x1 x2 σ
    ) else (
      zf_Program_settleWays_66 F k2 x0 x1 x2 (zs_i σ x2 7) x2 σ
    )
  ) else (
    zf_Program_settleWays_69 F k2 x0 x1 x2 σ
  )
def zf_Program_settleWays_2 (F : Nat)  : Nat → Nat → Int32 → zs_S → Option (zs_S)
  | 0, _, _, _ => none
  | n + 1, x0, x1, σ =>
    zq_g (zq_k 0 x0 15) <|
    if (zs_i σ x0 3) ≤ x1 then (
      some σ
    ) else (
      zq_q (zd_rf 0 x0 7) fun q2 =>
      zq_g (zq_k 0 q2 5) <|
      zq_g (zq_b x1 (zd_sh 0 q2).2) <|
      zq_q (zd_rf 0 q2 (x1).toNatClampNeg) fun q5 =>
      zq_g (zq_k 0 q5 16) <|
      if (zs_i σ q5 7) = ((-2)) then (
        zq_c (zf_Program_behindBlock F x0 (zs_i σ q5 1) σ) fun r8 σ7 =>
        zq_v (zs_wi σ7 q5 7 r8) fun σ10 =>
        zf_Program_settleWays_38 F (zf_Program_settleWays_2 F n) x0 x1 q5 σ10
      ) else (
        zf_Program_settleWays_38 F (zf_Program_settleWays_2 F n) x0 x1 q5 σ
      )
    )
def zf_Program_settleWays (F : Nat) (x0 : Nat) (σ : zs_S) : Option (zs_S) :=
  zf_Program_settleWays_2 F F x0 0 σ
set_option maxHeartbeats 4000000 in
set_option maxRecDepth 100000 in
theorem zc_Program_settleWays {l : Launch} {D : va_G} {cA : Nat → ClassId} {ad : Nat → Nat} {A : Nat → Prop} {F : Nat} {x0 : Nat} {σ : zs_S} {q : zs_S} (hJ : zs_J ad) (hf : zf_Program_settleWays F x0 σ = some q) : Met l y_Program_settleWays (.code y_Program_settleWays prog_7_method_5_code 3 none :: zd_ww) { frames := 1, cells := 0, slots := 0, locals := 21 } (va_Pc [.ref (ad x0)] (zs_U 0 D cA ad A σ)) (zs_Qv 0 D cA ad A q) 0 0 A := by
  refine Met.ofW (cc := prog_7_method_5_code) (maxL := 3) (ret := none) (by decide) rfl ?_
  intro p e s m args below meth c s₁ B hml hv
  obtain ⟨hargs, hP, hK, hD, hZ⟩ := hv
  have G : zs_G 0 p s m args c prog_7_method_5_code 3 "ScheduleCheck$Program" D cA ad A := ⟨⟨B.exec, B.bytes, hml, findClass_of_methodNamed B.named, fun w h => atoms_spec B.pre w (List.mem_cons_of_mem _ h)⟩, hK, hJ, hZ⟩
  have hw : zs_I 0 D cA ad A s σ s.heap [] := ⟨hP, hD, va_S.rf⟩
  have hx := G.1.1
  have hb := G.1.2.1
  have hown := G.1.2.2.2.1
  have hts := G.1.2.2.2.2
  have hr := B.returns
  have hlocks := B.notSynchronized
  have he : entryFrame m args 3 = F0 m 0 ((lg_sl [.ref (ad x0)] ++ List.replicate (3 - (lg_sl [.ref (ad x0)]).length) Slot.unset).toArray) [] := by rw [hargs]; exact lg_entry_eq m _ 3
  have hl := lv_entry [.ref (ad x0)] (n := 3) (Nat.le_of_ble_eq_true rfl)
  rw [he]
  generalize (lg_sl [.ref (ad x0)] ++ List.replicate (3 - (lg_sl [.ref (ad x0)]).length) Slot.unset).toArray = ls at hl
  have hl : lv_has ls 3 [(0, .ref (ad x0))] := hl
  obtain ⟨RR, hR⟩ : ∃ z, z = (headSpec (.code y_Program_settleWays prog_7_method_5_code 3 none :: zd_ww) { frames := 1, cells := 0, slots := 0, locals := 21 }).room := ⟨_, rfl⟩
  rw [← hR]
  obtain ⟨QQ, hQ⟩ : ∃ z, z = MQ below (zs_Qv 0 D cA ad A q) args s 0 0 A := ⟨_, rfl⟩
  rw [← hQ]
  have hR1 : 1 ≤ RR.frames := by rw [hR]; exact Nat.le_refl _
  have hR2 : 21 ≤ RR.locals := by rw [hR]; exact Nat.le_refl _
  generalize s.heap = H at hw ⊢
  generalize ([] : List Loc) = locs at hw ⊢
  have K86 : ∀ (k2 : Nat → Int32 → zs_S → Option (zs_S)) (hk2 : ∀ (x0 : Nat) (x1 : Int32) (σ : zs_S) (H : Heap) (locs : List Loc) (ls : Array Slot), k2 x0 x1 σ = some q → zs_I 0 D cA ad A s σ H locs → lv_has ls 3 [(0, .ref (ad x0)), (1, .int x1)] → W p l e RR s m args below meth c H locs 0 0 QQ (F0 m 2 ls [])) (x0 : Nat) (x1 : Int32) (σ : zs_S) (H : Heap) (locs : List Loc) (ls : Array Slot), zf_Program_settleWays_86 F k2 x0 x1 σ = some q → zs_I 0 D cA ad A s σ H locs → lv_has ls 3 [(0, .ref (ad x0)), (1, .int x1)] → W p l e RR s m args below meth c H locs 0 0 QQ (F0 m 86 ls []) := by
    intro k2 hk2 x0 x1 σ H locs ls hf hw hl
    unfold zf_Program_settleWays_86 at hf
    obtain ⟨v18, e_v18, hf⟩ := zq_ss hf
    refine lv_iinc (v := v18) hx hb d_Program_settleWays_86 hl (k := 1) rfl (zq_inc (k := 1) (by decide) e_v18) (by decide) rfl (fun ls hl => ?_)
    have hl : lv_has ls 3 [(1, .int v18), (0, .ref (ad x0))] := hl
    refine lv_goto hx hb d_Program_settleWays_89 (tgt := 2) rfl ?_
    exact hk2 x0 v18 σ H locs ls hf hw (lv_sub hl [1, 0] rfl)
  have K69 : ∀ (k2 : Nat → Int32 → zs_S → Option (zs_S)) (hk2 : ∀ (x0 : Nat) (x1 : Int32) (σ : zs_S) (H : Heap) (locs : List Loc) (ls : Array Slot), k2 x0 x1 σ = some q → zs_I 0 D cA ad A s σ H locs → lv_has ls 3 [(0, .ref (ad x0)), (1, .int x1)] → W p l e RR s m args below meth c H locs 0 0 QQ (F0 m 2 ls [])) (x0 : Nat) (x1 : Int32) (x2 : Nat) (σ : zs_S) (H : Heap) (locs : List Loc) (ls : Array Slot), zf_Program_settleWays_69 F k2 x0 x1 x2 σ = some q → zs_I 0 D cA ad A s σ H locs → lv_has ls 3 [(0, .ref (ad x0)), (1, .int x1), (2, .ref (ad x2))] → W p l e RR s m args below meth c H locs 0 0 QQ (F0 m 69 ls []) := by
    intro k2 hk2 x0 x1 x2 σ H locs ls hf hw hl
    unfold zf_Program_settleWays_69 at hf
    refine lv_aload_n hx hb d_Program_settleWays_69 rfl (lv_at hl 2 rfl) ?_
    obtain ⟨hs16, hf⟩ := zq_gs hf
    have hs16 := zq_ks hs16
    refine zr_get (ci := 6) G hw x2 6 zi_6 hs16 rfl rfl (by decide) zm_118 (fun _ h => h) (v := .int (zs_i σ x2 6)) rfl d_Program_settleWays_70 ?_
    refine lv_bipush (v := (-2)) hx hb d_Program_settleWays_73 (by decide) ?_
    refine lv_icmp_ne hx hb d_Program_settleWays_75 (tgt := 86) rfl (fun hc => ?_) (fun hc => ?_)
    · have hf := (if_neg hc).symm.trans hf
      exact K86 k2 hk2 x0 x1 σ H locs ls hf hw (lv_sub hl [0, 1] rfl)
    · have hf := (if_pos hc).symm.trans hf
      refine lv_aload_n hx hb d_Program_settleWays_78 rfl (lv_at hl 2 rfl) ?_
      refine lv_aload_n hx hb d_Program_settleWays_79 rfl (lv_at hl 2 rfl) ?_
      refine zr_get (ci := 6) G hw x2 7 zi_6 hs16 rfl rfl (by decide) zm_110 (fun _ h => h) (v := .int (zs_i σ x2 7)) rfl d_Program_settleWays_80 ?_
      obtain ⟨σ17, e_σ17, hf⟩ := zq_ss hf
      refine zr_puti (ci := 6) G hw x2 6 zi_6 t_zd6 t_zd6_ok n_zd6 hs16 rfl rfl (by decide) rfl zm_118 (fun _ h => h) rfl (x := (zs_i σ x2 7)) (t_zd6_ok 6 (by decide)) rfl rfl d_Program_settleWays_83 (fun H locs hw => ?_)
      rw [← e_σ17] at hw
      exact K86 k2 hk2 x0 x1 σ17 H locs ls hf hw (lv_sub hl [0, 1] rfl)
  have K66 : ∀ (k2 : Nat → Int32 → zs_S → Option (zs_S)) (hk2 : ∀ (x0 : Nat) (x1 : Int32) (σ : zs_S) (H : Heap) (locs : List Loc) (ls : Array Slot), k2 x0 x1 σ = some q → zs_I 0 D cA ad A s σ H locs → lv_has ls 3 [(0, .ref (ad x0)), (1, .int x1)] → W p l e RR s m args below meth c H locs 0 0 QQ (F0 m 2 ls [])) (x0 : Nat) (x1 : Int32) (x2 : Nat) (t0 : Int32) (t1 : Nat) (σ : zs_S) (H : Heap) (locs : List Loc) (ls : Array Slot), zf_Program_settleWays_66 F k2 x0 x1 x2 t0 t1 σ = some q → zs_I 0 D cA ad A s σ H locs → lv_has ls 3 [(0, .ref (ad x0)), (1, .int x1), (2, .ref (ad x2))] → W p l e RR s m args below meth c H locs 0 0 QQ (F0 m 66 ls [.int t0, .ref (ad t1)]) := by
    intro k2 hk2 x0 x1 x2 t0 t1 σ H locs ls hf hw hl
    unfold zf_Program_settleWays_66 at hf
    obtain ⟨hs14, hf⟩ := zq_gs hf
    have hs14 := zq_ks hs14
    obtain ⟨σ15, e_σ15, hf⟩ := zq_ss hf
    refine zr_puti (ci := 6) G hw t1 5 zi_6 t_zd6 t_zd6_ok n_zd6 hs14 rfl rfl (by decide) rfl zm_117 (fun _ h => h) rfl (x := t0) (t_zd6_ok 5 (by decide)) rfl rfl d_Program_settleWays_66 (fun H locs hw => ?_)
    rw [← e_σ15] at hw
    exact K69 k2 hk2 x0 x1 x2 σ15 H locs ls hf hw (lv_sub hl [0, 1, 2] rfl)
  have K38 : ∀ (k2 : Nat → Int32 → zs_S → Option (zs_S)) (hk2 : ∀ (x0 : Nat) (x1 : Int32) (σ : zs_S) (H : Heap) (locs : List Loc) (ls : Array Slot), k2 x0 x1 σ = some q → zs_I 0 D cA ad A s σ H locs → lv_has ls 3 [(0, .ref (ad x0)), (1, .int x1)] → W p l e RR s m args below meth c H locs 0 0 QQ (F0 m 2 ls [])) (x0 : Nat) (x1 : Int32) (x2 : Nat) (σ : zs_S) (H : Heap) (locs : List Loc) (ls : Array Slot), zf_Program_settleWays_38 F k2 x0 x1 x2 σ = some q → zs_I 0 D cA ad A s σ H locs → lv_has ls 3 [(0, .ref (ad x0)), (1, .int x1), (2, .ref (ad x2))] → W p l e RR s m args below meth c H locs 0 0 QQ (F0 m 38 ls []) := by
    intro k2 hk2 x0 x1 x2 σ H locs ls hf hw hl
    unfold zf_Program_settleWays_38 at hf
    refine lv_aload_n hx hb d_Program_settleWays_38 rfl (lv_at hl 2 rfl) ?_
    obtain ⟨hs11, hf⟩ := zq_gs hf
    have hs11 := zq_ks hs11
    refine zr_get (ci := 6) G hw x2 5 zi_6 hs11 rfl rfl (by decide) zm_117 (fun _ h => h) (v := .int (zs_i σ x2 5)) rfl d_Program_settleWays_39 ?_
    refine lv_bipush (v := (-2)) hx hb d_Program_settleWays_42 (by decide) ?_
    refine lv_icmp_ne hx hb d_Program_settleWays_44 (tgt := 69) rfl (fun hc => ?_) (fun hc => ?_)
    · have hf := (if_neg hc).symm.trans hf
      exact K69 k2 hk2 x0 x1 x2 σ H locs ls hf hw (lv_sub hl [0, 1, 2] rfl)
    · have hf := (if_pos hc).symm.trans hf
      refine lv_aload_n hx hb d_Program_settleWays_47 rfl (lv_at hl 2 rfl) ?_
      refine lv_aload_n hx hb d_Program_settleWays_48 rfl (lv_at hl 2 rfl) ?_
      obtain ⟨q12, e_q12, h_q12, hf⟩ := zq_qs hf
      refine zr_get (ci := 6) G hw x2 0 zi_6 hs11 rfl rfl (by decide) zm_108 (fun _ h => h) (v := .ref (ad q12)) (zs_fr rfl e_q12 h_q12) d_Program_settleWays_49 ?_
      refine va_gets (C := "ScheduleCheck$Kind") (n := "WHILE") (d := "LScheduleCheck$Kind;") (v := .ref (ad 1108)) hx hb ((G.2.2.2.1 rfl).2.2.1.1 8 (by decide)).1 hw.2.2 hown (hts _ zm_109) (fun _ h => h) d_Program_settleWays_52 ?_
      obtain ⟨hm13, hf⟩ := zq_gs hf
      refine zr_ane G (of_decide_eq_true hm13) (by decide) d_Program_settleWays_55 (tgt := 62) rfl (fun hc => ?_) (fun hc => ?_)
      · have hf := (if_neg hc).symm.trans hf
        refine lv_aload_n hx hb d_Program_settleWays_62 rfl (lv_at hl 2 rfl) ?_
        refine zr_get (ci := 6) G hw x2 7 zi_6 hs11 rfl rfl (by decide) zm_110 (fun _ h => h) (v := .int (zs_i σ x2 7)) rfl d_Program_settleWays_63 ?_
        exact K66 k2 hk2 x0 x1 x2 (zs_i σ x2 7) x2 σ H locs ls hf hw (lv_sub hl [0, 1, 2] rfl)
      · have hf := (if_pos hc).symm.trans hf
        refine lv_iload_n hx hb d_Program_settleWays_58 rfl (lv_at hl 1 rfl) ?_
        refine lv_goto hx hb d_Program_settleWays_59 (tgt := 66) rfl ?_
        exact K66 k2 hk2 x0 x1 x2 x1 x2 σ H locs ls hf hw (lv_sub hl [0, 1, 2] rfl)
  have K2 : ∀ (n : Nat) (x0 : Nat) (x1 : Int32) (σ : zs_S) (H : Heap) (locs : List Loc) (ls : Array Slot), zf_Program_settleWays_2 F n x0 x1 σ = some q → zs_I 0 D cA ad A s σ H locs → lv_has ls 3 [(0, .ref (ad x0)), (1, .int x1)] → W p l e RR s m args below meth c H locs 0 0 QQ (F0 m 2 ls []) := by
    intro  n
    induction n with
    | zero => intro x0 x1 σ H locs ls hf hw hl; exact nomatch (show (none : Option (zs_S)) = some q from hf)
    | succ n ih =>
      intro x0 x1 σ H locs ls hf hw hl
      rw [zf_Program_settleWays_2] at hf
      refine lv_iload_n hx hb d_Program_settleWays_2 rfl (lv_at hl 1 rfl) ?_
      refine lv_aload_n hx hb d_Program_settleWays_3 rfl (lv_at hl 0 rfl) ?_
      obtain ⟨hs1, hf⟩ := zq_gs hf
      have hs1 := zq_ks hs1
      refine zr_get (ci := 5) G hw x0 3 zi_5 hs1 rfl rfl (by decide) zm_104 (fun _ h => h) (v := .int (zs_i σ x0 3)) rfl d_Program_settleWays_4 ?_
      refine lv_icmp_ge hx hb d_Program_settleWays_7 (tgt := 92) rfl (fun hc => ?_) (fun hc => ?_)
      · have hf := (if_pos hc).symm.trans hf
        exact zr_vret G hw hr hlocks hf hQ d_Program_settleWays_92
      · have hf := (if_neg hc).symm.trans hf
        refine lv_aload_n hx hb d_Program_settleWays_10 rfl (lv_at hl 0 rfl) ?_
        obtain ⟨q2, e_q2, h_q2, hf⟩ := zq_qs hf
        refine zr_get (ci := 5) G hw x0 7 zi_5 hs1 rfl rfl (by decide) zm_107 (fun _ h => h) (v := .ref (ad q2)) (zs_fs rfl e_q2 h_q2) d_Program_settleWays_11 ?_
        refine lv_iload_n hx hb d_Program_settleWays_14 rfl (lv_at hl 1 rfl) ?_
        obtain ⟨hs3, hf⟩ := zq_gs hf
        have hs3 := zq_ks hs3
        obtain ⟨hi4, hf⟩ := zq_gs hf
        obtain ⟨q5, e_q5, h_q5, hf⟩ := zq_qs hf
        refine zr_aald5 G hw q2 hs3 rfl hi4 (by rw [← e_q5]; exact h_q5) d_Program_settleWays_15 ?_
        rw [← e_q5]
        refine lv_astore_n hx hb d_Program_settleWays_16 rfl hl (by decide) rfl (fun ls hl => ?_)
        have hl : lv_has ls 3 [(2, .ref (ad q5)), (0, .ref (ad x0)), (1, .int x1)] := hl
        refine lv_aload_n hx hb d_Program_settleWays_17 rfl (lv_at hl 0 rfl) ?_
        obtain ⟨hs6, hf⟩ := zq_gs hf
        have hs6 := zq_ks hs6
        refine zr_get (ci := 6) G hw q5 7 zi_6 hs6 rfl rfl (by decide) zm_110 (fun _ h => h) (v := .int (zs_i σ q5 7)) rfl d_Program_settleWays_18 ?_
        refine lv_bipush (v := (-2)) hx hb d_Program_settleWays_21 (by decide) ?_
        refine lv_icmp_ne hx hb d_Program_settleWays_23 (tgt := 38) rfl (fun hc => ?_) (fun hc => ?_)
        · have hf := (if_neg hc).symm.trans hf
          exact K38 (zf_Program_settleWays_2 F n) ih x0 x1 q5 σ H locs ls hf hw (lv_sub hl [1, 2, 0] rfl)
        · have hf := (if_pos hc).symm.trans hf
          refine lv_aload_n hx hb d_Program_settleWays_26 rfl (lv_at hl 0 rfl) ?_
          refine lv_aload_n hx hb d_Program_settleWays_27 rfl (lv_at hl 1 rfl) ?_
          refine lv_aload_n hx hb d_Program_settleWays_28 rfl (lv_at hl 0 rfl) ?_
          refine zr_get (ci := 6) G hw q5 1 zi_6 hs6 rfl rfl (by decide) zm_111 (fun _ h => h) (v := .int (zs_i σ q5 1)) rfl d_Program_settleWays_29 ?_
          obtain ⟨r8, σ7, hc9, hf⟩ := zq_cs hf
          refine zr_ci hw (zr_runV (rest := [.ref (ad q5)]) (ci := 5) (o := x0) G hw [.int (zs_i σ q5 1)] (zc_Program_behindBlock hJ hc9) (cwV 1 hts (zs_gV zm_113 zm_114 zm_115 zm_116 zm_112) rfl rfl rfl (by decide +kernel) ⟨Nat.le_trans (by decide) hR1, Nat.le_trans (by decide) hR2⟩) hs1 rfl rfl hl.1 (Nat.le_of_ble_eq_true rfl) d_Program_settleWays_32 ⟨Nat.zero_le _, Nat.zero_le _⟩) (fun H locs hw => ?_)
          obtain ⟨σ10, e_σ10, hf⟩ := zq_ss hf
          refine zr_puti (ci := 6) G hw q5 7 zi_6 t_zd6 t_zd6_ok n_zd6 hs6 rfl rfl (by decide) rfl zm_110 (fun _ h => h) rfl (x := r8) (t_zd6_ok 7 (by decide)) rfl rfl d_Program_settleWays_35 (fun H locs hw => ?_)
          rw [← e_σ10] at hw
          exact K38 (zf_Program_settleWays_2 F n) ih x0 x1 q5 σ10 H locs ls hf hw (lv_sub hl [1, 2, 0] rfl)
  unfold zf_Program_settleWays at hf
  refine lv_iconst (v := 0) hx hb d_Program_settleWays_0 (by decide) ?_
  refine lv_istore_n hx hb d_Program_settleWays_1 rfl hl (by decide) rfl (fun ls hl => ?_)
  have hl : lv_has ls 3 [(1, .int 0), (0, .ref (ad x0))] := hl
  exact K2 F x0 0 σ H locs ls hf hw (lv_sub hl [1, 0] rfl)
/-! ScheduleCheck$Code.add -/
def y_Code_add : MethodName := ⟨"ScheduleCheck$Code","add","(LScheduleCheck$Token;I)V"⟩
theorem d_Code_add_0 : decode prog_3_method_2_code 0 = .ok (.aload_n 0, 1) := by decide +kernel
theorem d_Code_add_1 : decode prog_3_method_2_code 1 = .ok (.getfield 24, 3) := by decide +kernel
theorem d_Code_add_4 : decode prog_3_method_2_code 4 = .ok (.sipush 1600, 3) := by decide +kernel
theorem d_Code_add_7 : decode prog_3_method_2_code 7 = .ok (.if_icmp .ge 33, 3) := by decide +kernel
theorem d_Code_add_10 : decode prog_3_method_2_code 10 = .ok (.aload_n 0, 1) := by decide +kernel
theorem d_Code_add_11 : decode prog_3_method_2_code 11 = .ok (.getfield 11, 3) := by decide +kernel
theorem d_Code_add_14 : decode prog_3_method_2_code 14 = .ok (.aload_n 0, 1) := by decide +kernel
theorem d_Code_add_15 : decode prog_3_method_2_code 15 = .ok (.getfield 24, 3) := by decide +kernel
theorem d_Code_add_18 : decode prog_3_method_2_code 18 = .ok (.aload_n 1, 1) := by decide +kernel
theorem d_Code_add_19 : decode prog_3_method_2_code 19 = .ok (.aastore, 1) := by decide +kernel
theorem d_Code_add_20 : decode prog_3_method_2_code 20 = .ok (.aload_n 0, 1) := by decide +kernel
theorem d_Code_add_21 : decode prog_3_method_2_code 21 = .ok (.getfield 17, 3) := by decide +kernel
theorem d_Code_add_24 : decode prog_3_method_2_code 24 = .ok (.aload_n 0, 1) := by decide +kernel
theorem d_Code_add_25 : decode prog_3_method_2_code 25 = .ok (.getfield 24, 3) := by decide +kernel
theorem d_Code_add_28 : decode prog_3_method_2_code 28 = .ok (.iload_n 2, 1) := by decide +kernel
theorem d_Code_add_29 : decode prog_3_method_2_code 29 = .ok (.iastore, 1) := by decide +kernel
theorem d_Code_add_30 : decode prog_3_method_2_code 30 = .ok (.aload_n 0, 1) := by decide +kernel
theorem d_Code_add_31 : decode prog_3_method_2_code 31 = .ok (.dup, 1) := by decide +kernel
theorem d_Code_add_32 : decode prog_3_method_2_code 32 = .ok (.getfield 24, 3) := by decide +kernel
theorem d_Code_add_35 : decode prog_3_method_2_code 35 = .ok (.iconst 1, 1) := by decide +kernel
theorem d_Code_add_36 : decode prog_3_method_2_code 36 = .ok (.iadd, 1) := by decide +kernel
theorem d_Code_add_37 : decode prog_3_method_2_code 37 = .ok (.putfield 24, 3) := by decide +kernel
theorem d_Code_add_40 : decode prog_3_method_2_code 40 = .ok (.return_, 1) := by decide +kernel
def zf_Code_add_40 (F : Nat)   (σ : zs_S) : Option (zs_S) :=
  some σ
def zf_Code_add (F : Nat) (x0 : Nat) (x1 : Nat) (x2 : Int32) (σ : zs_S) : Option (zs_S) :=
  zq_g (zq_k 0 x0 17) <|
  if 1600 ≤ (zs_i σ x0 3) then (
    zf_Code_add_40 F σ
  ) else (
    zq_q (zd_rf 0 x0 0) fun q2 =>
    zq_g (zq_k 0 q2 4) <|
    zq_g (zq_b (zs_i σ x0 3) (zd_sh 0 q2).2) <|
    zq_g (zq_t x1) <|
    zq_v (zs_wr σ q2 ((zs_i σ x0 3).toNatClampNeg) x1) fun σ5 =>
    zq_q (zd_rf 0 x0 1) fun q7 =>
    zq_g (zq_k 0 q7 0) <|
    zq_g (zq_b (zs_i σ5 x0 3) (zd_sh 0 q7).2) <|
    zq_v (zs_wi σ5 q7 ((zs_i σ5 x0 3).toNatClampNeg) x2) fun σ10 =>
    zq_v (zs_wi σ10 x0 3 ((zs_i σ10 x0 3) + 1)) fun σ11 =>
    zf_Code_add_40 F σ11
  )
set_option maxHeartbeats 4000000 in
set_option maxRecDepth 100000 in
theorem zc_Code_add {l : Launch} {D : va_G} {cA : Nat → ClassId} {ad : Nat → Nat} {A : Nat → Prop} {F : Nat} {x0 : Nat} {x1 : Nat} {x2 : Int32} {σ : zs_S} {q : zs_S} (hJ : zs_J ad) (hf : zf_Code_add F x0 x1 x2 σ = some q) : Met l y_Code_add (.code y_Code_add prog_3_method_2_code 3 none :: zd_ww) { frames := 0, cells := 0, slots := 0, locals := 0 } (va_Pc [.ref (ad x0), .ref (ad x1), .int x2] (zs_U 0 D cA ad A σ)) (zs_Qv 0 D cA ad A q) 0 0 A := by
  refine Met.ofW (cc := prog_3_method_2_code) (maxL := 3) (ret := none) (by decide) rfl ?_
  intro p e s m args below meth c s₁ B hml hv
  obtain ⟨hargs, hP, hK, hD, hZ⟩ := hv
  have G : zs_G 0 p s m args c prog_3_method_2_code 3 "ScheduleCheck$Code" D cA ad A := ⟨⟨B.exec, B.bytes, hml, findClass_of_methodNamed B.named, fun w h => atoms_spec B.pre w (List.mem_cons_of_mem _ h)⟩, hK, hJ, hZ⟩
  have hw : zs_I 0 D cA ad A s σ s.heap [] := ⟨hP, hD, va_S.rf⟩
  have hx := G.1.1
  have hb := G.1.2.1
  have hown := G.1.2.2.2.1
  have hts := G.1.2.2.2.2
  have hr := B.returns
  have hlocks := B.notSynchronized
  have he : entryFrame m args 3 = F0 m 0 ((lg_sl [.ref (ad x0), .ref (ad x1), .int x2] ++ List.replicate (3 - (lg_sl [.ref (ad x0), .ref (ad x1), .int x2]).length) Slot.unset).toArray) [] := by rw [hargs]; exact lg_entry_eq m _ 3
  have hl := lv_entry [.ref (ad x0), .ref (ad x1), .int x2] (n := 3) (Nat.le_of_ble_eq_true rfl)
  rw [he]
  generalize (lg_sl [.ref (ad x0), .ref (ad x1), .int x2] ++ List.replicate (3 - (lg_sl [.ref (ad x0), .ref (ad x1), .int x2]).length) Slot.unset).toArray = ls at hl
  have hl : lv_has ls 3 [(0, .ref (ad x0)), (1, .ref (ad x1)), (2, .int x2)] := hl
  obtain ⟨RR, hR⟩ : ∃ z, z = (headSpec (.code y_Code_add prog_3_method_2_code 3 none :: zd_ww) { frames := 0, cells := 0, slots := 0, locals := 0 }).room := ⟨_, rfl⟩
  rw [← hR]
  obtain ⟨QQ, hQ⟩ : ∃ z, z = MQ below (zs_Qv 0 D cA ad A q) args s 0 0 A := ⟨_, rfl⟩
  rw [← hQ]
  have hR1 : 0 ≤ RR.frames := by rw [hR]; exact Nat.le_refl _
  have hR2 : 0 ≤ RR.locals := by rw [hR]; exact Nat.le_refl _
  generalize s.heap = H at hw ⊢
  generalize ([] : List Loc) = locs at hw ⊢
  have K40 : ∀ (σ : zs_S) (H : Heap) (locs : List Loc) (ls : Array Slot), zf_Code_add_40 F σ = some q → zs_I 0 D cA ad A s σ H locs → lv_has ls 3 [] → W p l e RR s m args below meth c H locs 0 0 QQ (F0 m 40 ls []) := by
    intro   σ H locs ls hf hw hl
    unfold zf_Code_add_40 at hf
    exact zr_vret G hw hr hlocks hf hQ d_Code_add_40
  unfold zf_Code_add at hf
  refine lv_aload_n hx hb d_Code_add_0 rfl (lv_at hl 0 rfl) ?_
  obtain ⟨hs1, hf⟩ := zq_gs hf
  have hs1 := zq_ks hs1
  refine zr_get (ci := 7) G hw x0 3 zi_7 hs1 rfl rfl (by decide) zm_119 (fun _ h => h) (v := .int (zs_i σ x0 3)) rfl d_Code_add_1 ?_
  refine lv_sipush (v := 1600) hx hb d_Code_add_4 (by decide) ?_
  refine lv_icmp_ge hx hb d_Code_add_7 (tgt := 40) rfl (fun hc => ?_) (fun hc => ?_)
  · have hf := (if_pos hc).symm.trans hf
    exact K40 σ H locs ls hf hw (lv_sub hl [] rfl)
  · have hf := (if_neg hc).symm.trans hf
    refine lv_aload_n hx hb d_Code_add_10 rfl (lv_at hl 0 rfl) ?_
    obtain ⟨q2, e_q2, h_q2, hf⟩ := zq_qs hf
    refine zr_get (ci := 7) G hw x0 0 zi_7 hs1 rfl rfl (by decide) zm_120 (fun _ h => h) (v := .ref (ad q2)) (zs_fs rfl e_q2 h_q2) d_Code_add_11 ?_
    refine lv_aload_n hx hb d_Code_add_14 rfl (lv_at hl 0 rfl) ?_
    refine zr_get (ci := 7) G hw x0 3 zi_7 hs1 rfl rfl (by decide) zm_119 (fun _ h => h) (v := .int (zs_i σ x0 3)) rfl d_Code_add_15 ?_
    refine lv_aload_n hx hb d_Code_add_18 rfl (lv_at hl 1 rfl) ?_
    obtain ⟨hs3, hf⟩ := zq_gs hf
    have hs3 := zq_ks hs3
    obtain ⟨hi4, hf⟩ := zq_gs hf
    obtain ⟨ht6, hf⟩ := zq_gs hf
    obtain ⟨σ5, e_σ5, hf⟩ := zq_ss hf
    refine zr_aast G hw q2 hs3 rfl (zq_tn ht6) hi4 (zr_tok G hw ht6) d_Code_add_19 (fun H locs hw => ?_)
    rw [← e_σ5] at hw
    refine lv_aload_n hx hb d_Code_add_20 rfl (lv_at hl 0 rfl) ?_
    obtain ⟨q7, e_q7, h_q7, hf⟩ := zq_qs hf
    refine zr_get (ci := 7) G hw x0 1 zi_7 hs1 rfl rfl (by decide) zm_121 (fun _ h => h) (v := .ref (ad q7)) (zs_fs rfl e_q7 h_q7) d_Code_add_21 ?_
    refine lv_aload_n hx hb d_Code_add_24 rfl (lv_at hl 0 rfl) ?_
    refine zr_get (ci := 7) G hw x0 3 zi_7 hs1 rfl rfl (by decide) zm_119 (fun _ h => h) (v := .int (zs_i σ5 x0 3)) rfl d_Code_add_25 ?_
    refine lv_iload_n hx hb d_Code_add_28 rfl (lv_at hl 2 rfl) ?_
    obtain ⟨hs8, hf⟩ := zq_gs hf
    have hs8 := zq_ks hs8
    obtain ⟨hi9, hf⟩ := zq_gs hf
    obtain ⟨σ10, e_σ10, hf⟩ := zq_ss hf
    refine zr_iast G hw q7 hs8 rfl  hi9  d_Code_add_29 (fun H locs hw => ?_)
    rw [← e_σ10] at hw
    refine lv_aload_n hx hb d_Code_add_30 rfl (lv_at hl 0 rfl) ?_
    refine lv_dup hx hb d_Code_add_31 rfl ?_
    refine zr_get (ci := 7) G hw x0 3 zi_7 hs1 rfl rfl (by decide) zm_119 (fun _ h => h) (v := .int (zs_i σ10 x0 3)) rfl d_Code_add_32 ?_
    refine lv_iconst (v := 1) hx hb d_Code_add_35 (by decide) ?_
    refine lv_iadd hx hb d_Code_add_36 ?_
    obtain ⟨σ11, e_σ11, hf⟩ := zq_ss hf
    refine zr_puti (ci := 7) G hw x0 3 zi_7 t_zd7 t_zd7_ok n_zd7 hs1 rfl rfl (by decide) rfl zm_119 (fun _ h => h) rfl (x := ((zs_i σ10 x0 3) + 1)) (t_zd7_ok 3 (by decide)) rfl rfl d_Code_add_37 (fun H locs hw => ?_)
    rw [← e_σ11] at hw
    exact K40 σ11 H locs ls hf hw (lv_sub hl [] rfl)
/-! ScheduleCheck$Code.join -/
def y_Code_join : MethodName := ⟨"ScheduleCheck$Code","join","(LScheduleCheck$Token;II)I"⟩
theorem d_Code_join_0 : decode prog_3_method_4_code 0 = .ok (.getstatic 49, 3) := by decide +kernel
theorem d_Code_join_3 : decode prog_3_method_4_code 3 = .ok (.aload_n 0, 1) := by decide +kernel
theorem d_Code_join_4 : decode prog_3_method_4_code 4 = .ok (.invokevirtual 54, 3) := by decide +kernel
theorem d_Code_join_7 : decode prog_3_method_4_code 7 = .ok (.iaload, 1) := by decide +kernel
theorem d_Code_join_8 : decode prog_3_method_4_code 8 = .ok (.tableswitch 184 1 10 #[56, 73, 90, 104, 118, 132, 146, 160, 174, 179], 56) := by decide +kernel
theorem d_Code_join_64 : decode prog_3_method_4_code 64 = .ok (.iload_n 1, 1) := by decide +kernel
theorem d_Code_join_65 : decode prog_3_method_4_code 65 = .ok (.ifCond .ne 7, 3) := by decide +kernel
theorem d_Code_join_68 : decode prog_3_method_4_code 68 = .ok (.iload_n 2, 1) := by decide +kernel
theorem d_Code_join_69 : decode prog_3_method_4_code 69 = .ok (.ifCond .eq 7, 3) := by decide +kernel
theorem d_Code_join_72 : decode prog_3_method_4_code 72 = .ok (.iconst 1, 1) := by decide +kernel
theorem d_Code_join_73 : decode prog_3_method_4_code 73 = .ok (.goto 4, 3) := by decide +kernel
theorem d_Code_join_76 : decode prog_3_method_4_code 76 = .ok (.iconst 0, 1) := by decide +kernel
theorem d_Code_join_77 : decode prog_3_method_4_code 77 = .ok (.invokestatic 38, 3) := by decide +kernel
theorem d_Code_join_80 : decode prog_3_method_4_code 80 = .ok (.ireturn, 1) := by decide +kernel
theorem d_Code_join_81 : decode prog_3_method_4_code 81 = .ok (.iload_n 1, 1) := by decide +kernel
theorem d_Code_join_82 : decode prog_3_method_4_code 82 = .ok (.ifCond .eq 11, 3) := by decide +kernel
theorem d_Code_join_85 : decode prog_3_method_4_code 85 = .ok (.iload_n 2, 1) := by decide +kernel
theorem d_Code_join_86 : decode prog_3_method_4_code 86 = .ok (.ifCond .eq 7, 3) := by decide +kernel
theorem d_Code_join_89 : decode prog_3_method_4_code 89 = .ok (.iconst 1, 1) := by decide +kernel
theorem d_Code_join_90 : decode prog_3_method_4_code 90 = .ok (.goto 4, 3) := by decide +kernel
theorem d_Code_join_93 : decode prog_3_method_4_code 93 = .ok (.iconst 0, 1) := by decide +kernel
theorem d_Code_join_94 : decode prog_3_method_4_code 94 = .ok (.invokestatic 38, 3) := by decide +kernel
theorem d_Code_join_97 : decode prog_3_method_4_code 97 = .ok (.ireturn, 1) := by decide +kernel
theorem d_Code_join_98 : decode prog_3_method_4_code 98 = .ok (.iload_n 1, 1) := by decide +kernel
theorem d_Code_join_99 : decode prog_3_method_4_code 99 = .ok (.iload_n 2, 1) := by decide +kernel
theorem d_Code_join_100 : decode prog_3_method_4_code 100 = .ok (.if_icmp .ne 7, 3) := by decide +kernel
theorem d_Code_join_103 : decode prog_3_method_4_code 103 = .ok (.iconst 1, 1) := by decide +kernel
theorem d_Code_join_104 : decode prog_3_method_4_code 104 = .ok (.goto 4, 3) := by decide +kernel
theorem d_Code_join_107 : decode prog_3_method_4_code 107 = .ok (.iconst 0, 1) := by decide +kernel
theorem d_Code_join_108 : decode prog_3_method_4_code 108 = .ok (.invokestatic 38, 3) := by decide +kernel
theorem d_Code_join_111 : decode prog_3_method_4_code 111 = .ok (.ireturn, 1) := by decide +kernel
theorem d_Code_join_112 : decode prog_3_method_4_code 112 = .ok (.iload_n 1, 1) := by decide +kernel
theorem d_Code_join_113 : decode prog_3_method_4_code 113 = .ok (.iload_n 2, 1) := by decide +kernel
theorem d_Code_join_114 : decode prog_3_method_4_code 114 = .ok (.if_icmp .eq 7, 3) := by decide +kernel
theorem d_Code_join_117 : decode prog_3_method_4_code 117 = .ok (.iconst 1, 1) := by decide +kernel
theorem d_Code_join_118 : decode prog_3_method_4_code 118 = .ok (.goto 4, 3) := by decide +kernel
theorem d_Code_join_121 : decode prog_3_method_4_code 121 = .ok (.iconst 0, 1) := by decide +kernel
theorem d_Code_join_122 : decode prog_3_method_4_code 122 = .ok (.invokestatic 38, 3) := by decide +kernel
theorem d_Code_join_125 : decode prog_3_method_4_code 125 = .ok (.ireturn, 1) := by decide +kernel
theorem d_Code_join_126 : decode prog_3_method_4_code 126 = .ok (.iload_n 1, 1) := by decide +kernel
theorem d_Code_join_127 : decode prog_3_method_4_code 127 = .ok (.iload_n 2, 1) := by decide +kernel
theorem d_Code_join_128 : decode prog_3_method_4_code 128 = .ok (.if_icmp .ge 7, 3) := by decide +kernel
theorem d_Code_join_131 : decode prog_3_method_4_code 131 = .ok (.iconst 1, 1) := by decide +kernel
theorem d_Code_join_132 : decode prog_3_method_4_code 132 = .ok (.goto 4, 3) := by decide +kernel
theorem d_Code_join_135 : decode prog_3_method_4_code 135 = .ok (.iconst 0, 1) := by decide +kernel
theorem d_Code_join_136 : decode prog_3_method_4_code 136 = .ok (.invokestatic 38, 3) := by decide +kernel
theorem d_Code_join_139 : decode prog_3_method_4_code 139 = .ok (.ireturn, 1) := by decide +kernel
theorem d_Code_join_140 : decode prog_3_method_4_code 140 = .ok (.iload_n 1, 1) := by decide +kernel
theorem d_Code_join_141 : decode prog_3_method_4_code 141 = .ok (.iload_n 2, 1) := by decide +kernel
theorem d_Code_join_142 : decode prog_3_method_4_code 142 = .ok (.if_icmp .gt 7, 3) := by decide +kernel
theorem d_Code_join_145 : decode prog_3_method_4_code 145 = .ok (.iconst 1, 1) := by decide +kernel
theorem d_Code_join_146 : decode prog_3_method_4_code 146 = .ok (.goto 4, 3) := by decide +kernel
theorem d_Code_join_149 : decode prog_3_method_4_code 149 = .ok (.iconst 0, 1) := by decide +kernel
theorem d_Code_join_150 : decode prog_3_method_4_code 150 = .ok (.invokestatic 38, 3) := by decide +kernel
theorem d_Code_join_153 : decode prog_3_method_4_code 153 = .ok (.ireturn, 1) := by decide +kernel
theorem d_Code_join_154 : decode prog_3_method_4_code 154 = .ok (.iload_n 1, 1) := by decide +kernel
theorem d_Code_join_155 : decode prog_3_method_4_code 155 = .ok (.iload_n 2, 1) := by decide +kernel
theorem d_Code_join_156 : decode prog_3_method_4_code 156 = .ok (.if_icmp .le 7, 3) := by decide +kernel
theorem d_Code_join_159 : decode prog_3_method_4_code 159 = .ok (.iconst 1, 1) := by decide +kernel
theorem d_Code_join_160 : decode prog_3_method_4_code 160 = .ok (.goto 4, 3) := by decide +kernel
theorem d_Code_join_163 : decode prog_3_method_4_code 163 = .ok (.iconst 0, 1) := by decide +kernel
theorem d_Code_join_164 : decode prog_3_method_4_code 164 = .ok (.invokestatic 38, 3) := by decide +kernel
theorem d_Code_join_167 : decode prog_3_method_4_code 167 = .ok (.ireturn, 1) := by decide +kernel
theorem d_Code_join_168 : decode prog_3_method_4_code 168 = .ok (.iload_n 1, 1) := by decide +kernel
theorem d_Code_join_169 : decode prog_3_method_4_code 169 = .ok (.iload_n 2, 1) := by decide +kernel
theorem d_Code_join_170 : decode prog_3_method_4_code 170 = .ok (.if_icmp .lt 7, 3) := by decide +kernel
theorem d_Code_join_173 : decode prog_3_method_4_code 173 = .ok (.iconst 1, 1) := by decide +kernel
theorem d_Code_join_174 : decode prog_3_method_4_code 174 = .ok (.goto 4, 3) := by decide +kernel
theorem d_Code_join_177 : decode prog_3_method_4_code 177 = .ok (.iconst 0, 1) := by decide +kernel
theorem d_Code_join_178 : decode prog_3_method_4_code 178 = .ok (.invokestatic 38, 3) := by decide +kernel
theorem d_Code_join_181 : decode prog_3_method_4_code 181 = .ok (.ireturn, 1) := by decide +kernel
theorem d_Code_join_182 : decode prog_3_method_4_code 182 = .ok (.iload_n 1, 1) := by decide +kernel
theorem d_Code_join_183 : decode prog_3_method_4_code 183 = .ok (.iload_n 2, 1) := by decide +kernel
theorem d_Code_join_184 : decode prog_3_method_4_code 184 = .ok (.iadd, 1) := by decide +kernel
theorem d_Code_join_185 : decode prog_3_method_4_code 185 = .ok (.i2b, 1) := by decide +kernel
theorem d_Code_join_186 : decode prog_3_method_4_code 186 = .ok (.ireturn, 1) := by decide +kernel
theorem d_Code_join_187 : decode prog_3_method_4_code 187 = .ok (.iload_n 1, 1) := by decide +kernel
theorem d_Code_join_188 : decode prog_3_method_4_code 188 = .ok (.iload_n 2, 1) := by decide +kernel
theorem d_Code_join_189 : decode prog_3_method_4_code 189 = .ok (.isub, 1) := by decide +kernel
theorem d_Code_join_190 : decode prog_3_method_4_code 190 = .ok (.i2b, 1) := by decide +kernel
theorem d_Code_join_191 : decode prog_3_method_4_code 191 = .ok (.ireturn, 1) := by decide +kernel
theorem d_Code_join_192 : decode prog_3_method_4_code 192 = .ok (.iload_n 1, 1) := by decide +kernel
theorem d_Code_join_193 : decode prog_3_method_4_code 193 = .ok (.iload_n 2, 1) := by decide +kernel
theorem d_Code_join_194 : decode prog_3_method_4_code 194 = .ok (.imul, 1) := by decide +kernel
theorem d_Code_join_195 : decode prog_3_method_4_code 195 = .ok (.i2b, 1) := by decide +kernel
theorem d_Code_join_196 : decode prog_3_method_4_code 196 = .ok (.ireturn, 1) := by decide +kernel
def zf_Code_join_178 (F : Nat)  (t0 : Int32) (σ : zs_S) : Option (Int32 × zs_S) :=
  zq_c (zf_Code_bit F t0 σ) fun r29 σ28 =>
  some (r29, σ28)
def zf_Code_join_164 (F : Nat)  (t0 : Int32) (σ : zs_S) : Option (Int32 × zs_S) :=
  zq_c (zf_Code_bit F t0 σ) fun r26 σ25 =>
  some (r26, σ25)
def zf_Code_join_150 (F : Nat)  (t0 : Int32) (σ : zs_S) : Option (Int32 × zs_S) :=
  zq_c (zf_Code_bit F t0 σ) fun r23 σ22 =>
  some (r23, σ22)
def zf_Code_join_136 (F : Nat)  (t0 : Int32) (σ : zs_S) : Option (Int32 × zs_S) :=
  zq_c (zf_Code_bit F t0 σ) fun r20 σ19 =>
  some (r20, σ19)
def zf_Code_join_122 (F : Nat)  (t0 : Int32) (σ : zs_S) : Option (Int32 × zs_S) :=
  zq_c (zf_Code_bit F t0 σ) fun r17 σ16 =>
  some (r17, σ16)
def zf_Code_join_108 (F : Nat)  (t0 : Int32) (σ : zs_S) : Option (Int32 × zs_S) :=
  zq_c (zf_Code_bit F t0 σ) fun r14 σ13 =>
  some (r14, σ13)
def zf_Code_join_94 (F : Nat)  (t0 : Int32) (σ : zs_S) : Option (Int32 × zs_S) :=
  zq_c (zf_Code_bit F t0 σ) fun r11 σ10 =>
  some (r11, σ10)
def zf_Code_join_93 (F : Nat)   (σ : zs_S) : Option (Int32 × zs_S) :=
  zf_Code_join_94 F 0 σ
def zf_Code_join_77 (F : Nat)  (t0 : Int32) (σ : zs_S) : Option (Int32 × zs_S) :=
  zq_c (zf_Code_bit F t0 σ) fun r8 σ7 =>
  some (r8, σ7)
def zf_Code_join_72 (F : Nat)   (σ : zs_S) : Option (Int32 × zs_S) :=
  zf_Code_join_77 F 1 σ
def zf_Code_join (F : Nat) (x0 : Nat) (x1 : Int32) (x2 : Int32) (σ : zs_S) : Option (Int32 × zs_S) :=
  zq_g (zq_t x0) <|
  zq_c (zf_Enum_ordinal0 F x0 σ) fun r2 σ1 =>
  zq_g (zq_b r2 37) <|
  zq_v (zd_mt.getD (r2).toNatClampNeg 0) fun v6 =>
  if v6 = 1 then (
    if x1 = 0 then (
      if x2 = 0 then (
        zf_Code_join_77 F 0 σ1
      ) else (
        zf_Code_join_72 F σ1
      )
    ) else (
      zf_Code_join_72 F σ1
    )
  ) else (
  if v6 = 2 then (
    if x1 = 0 then (
      zf_Code_join_93 F σ1
    ) else (
      if x2 = 0 then (
        zf_Code_join_93 F σ1
      ) else (
        zf_Code_join_94 F 1 σ1
      )
    )
  ) else (
  if v6 = 3 then (
    if x1 = x2 then (
      zf_Code_join_108 F 1 σ1
    ) else (
      zf_Code_join_108 F 0 σ1
    )
  ) else (
  if v6 = 4 then (
    if x1 = x2 then (
      zf_Code_join_122 F 0 σ1
    ) else (
      zf_Code_join_122 F 1 σ1
    )
  ) else (
  if v6 = 5 then (
    if x2 ≤ x1 then (
      zf_Code_join_136 F 0 σ1
    ) else (
      zf_Code_join_136 F 1 σ1
    )
  ) else (
  if v6 = 6 then (
    if x2 < x1 then (
      zf_Code_join_150 F 0 σ1
    ) else (
      zf_Code_join_150 F 1 σ1
    )
  ) else (
  if v6 = 7 then (
    if x1 ≤ x2 then (
      zf_Code_join_164 F 0 σ1
    ) else (
      zf_Code_join_164 F 1 σ1
    )
  ) else (
  if v6 = 8 then (
    if x1 < x2 then (
      zf_Code_join_178 F 0 σ1
    ) else (
      zf_Code_join_178 F 1 σ1
    )
  ) else (
  if v6 = 9 then (
    some (((x1 + x2 : Int32)).toInt8.toInt32, σ1)
  ) else (
  if v6 = 10 then (
    some (((x1 - x2 : Int32)).toInt8.toInt32, σ1)
  ) else (
    some (((x1 * x2 : Int32)).toInt8.toInt32, σ1)
  ))))))))))
set_option maxHeartbeats 4000000 in
set_option maxRecDepth 100000 in
theorem zc_Code_join {l : Launch} {D : va_G} {cA : Nat → ClassId} {ad : Nat → Nat} {A : Nat → Prop} {F : Nat} {x0 : Nat} {x1 : Int32} {x2 : Int32} {σ : zs_S} {q : Int32 × zs_S} (hJ : zs_J ad) (hf : zf_Code_join F x0 x1 x2 σ = some q) : Met l y_Code_join (.code y_Code_join prog_3_method_4_code 3 (some .int) :: zd_ww) { frames := 1, cells := 0, slots := 0, locals := 20 } (va_Pc [.ref (ad x0), .int x1, .int x2] (zs_U 0 D cA ad A σ)) (zs_Qi 0 D cA ad A q) 0 0 A := by
  refine Met.ofW (cc := prog_3_method_4_code) (maxL := 3) (ret := (some .int)) (by decide) rfl ?_
  intro p e s m args below meth c s₁ B hml hv
  obtain ⟨hargs, hP, hK, hD, hZ⟩ := hv
  have G : zs_G 0 p s m args c prog_3_method_4_code 3 "ScheduleCheck$Code" D cA ad A := ⟨⟨B.exec, B.bytes, hml, findClass_of_methodNamed B.named, fun w h => atoms_spec B.pre w (List.mem_cons_of_mem _ h)⟩, hK, hJ, hZ⟩
  have hw : zs_I 0 D cA ad A s σ s.heap [] := ⟨hP, hD, va_S.rf⟩
  have hx := G.1.1
  have hb := G.1.2.1
  have hown := G.1.2.2.2.1
  have hts := G.1.2.2.2.2
  have hr := B.returns
  have hlocks := B.notSynchronized
  have he : entryFrame m args 3 = F0 m 0 ((lg_sl [.ref (ad x0), .int x1, .int x2] ++ List.replicate (3 - (lg_sl [.ref (ad x0), .int x1, .int x2]).length) Slot.unset).toArray) [] := by rw [hargs]; exact lg_entry_eq m _ 3
  have hl := lv_entry [.ref (ad x0), .int x1, .int x2] (n := 3) (Nat.le_of_ble_eq_true rfl)
  rw [he]
  generalize (lg_sl [.ref (ad x0), .int x1, .int x2] ++ List.replicate (3 - (lg_sl [.ref (ad x0), .int x1, .int x2]).length) Slot.unset).toArray = ls at hl
  have hl : lv_has ls 3 [(0, .ref (ad x0)), (1, .int x1), (2, .int x2)] := hl
  obtain ⟨RR, hR⟩ : ∃ z, z = (headSpec (.code y_Code_join prog_3_method_4_code 3 (some .int) :: zd_ww) { frames := 1, cells := 0, slots := 0, locals := 20 }).room := ⟨_, rfl⟩
  rw [← hR]
  obtain ⟨QQ, hQ⟩ : ∃ z, z = MQ below (zs_Qi 0 D cA ad A q) args s 0 0 A := ⟨_, rfl⟩
  rw [← hQ]
  have hR1 : 1 ≤ RR.frames := by rw [hR]; exact Nat.le_refl _
  have hR2 : 20 ≤ RR.locals := by rw [hR]; exact Nat.le_refl _
  generalize s.heap = H at hw ⊢
  generalize ([] : List Loc) = locs at hw ⊢
  have K178 : ∀ (t0 : Int32) (σ : zs_S) (H : Heap) (locs : List Loc) (ls : Array Slot), zf_Code_join_178 F t0 σ = some q → zs_I 0 D cA ad A s σ H locs → lv_has ls 3 [] → W p l e RR s m args below meth c H locs 0 0 QQ (F0 m 178 ls [.int t0]) := by
    intro  t0 σ H locs ls hf hw hl
    unfold zf_Code_join_178 at hf
    obtain ⟨r29, σ28, hc30, hf⟩ := zq_cs hf
    refine zr_ci hw (zr_runS (rest := []) G hw [.int t0] (zc_Code_bit hJ hc30) (va_cwS 1 hts (zs_gS zm_130 zm_131 zm_132 zm_129) rfl rfl rfl (by decide +kernel) ⟨Nat.le_trans (by decide) hR1, Nat.le_trans (by decide) hR2⟩) rfl hl.1 (Nat.le_of_ble_eq_true rfl) d_Code_join_178 ⟨Nat.zero_le _, Nat.zero_le _⟩) (fun H locs hw => ?_)
    exact zr_iret G hw hr hlocks hf hQ d_Code_join_181
  have K164 : ∀ (t0 : Int32) (σ : zs_S) (H : Heap) (locs : List Loc) (ls : Array Slot), zf_Code_join_164 F t0 σ = some q → zs_I 0 D cA ad A s σ H locs → lv_has ls 3 [] → W p l e RR s m args below meth c H locs 0 0 QQ (F0 m 164 ls [.int t0]) := by
    intro  t0 σ H locs ls hf hw hl
    unfold zf_Code_join_164 at hf
    obtain ⟨r26, σ25, hc27, hf⟩ := zq_cs hf
    refine zr_ci hw (zr_runS (rest := []) G hw [.int t0] (zc_Code_bit hJ hc27) (va_cwS 1 hts (zs_gS zm_130 zm_131 zm_132 zm_129) rfl rfl rfl (by decide +kernel) ⟨Nat.le_trans (by decide) hR1, Nat.le_trans (by decide) hR2⟩) rfl hl.1 (Nat.le_of_ble_eq_true rfl) d_Code_join_164 ⟨Nat.zero_le _, Nat.zero_le _⟩) (fun H locs hw => ?_)
    exact zr_iret G hw hr hlocks hf hQ d_Code_join_167
  have K150 : ∀ (t0 : Int32) (σ : zs_S) (H : Heap) (locs : List Loc) (ls : Array Slot), zf_Code_join_150 F t0 σ = some q → zs_I 0 D cA ad A s σ H locs → lv_has ls 3 [] → W p l e RR s m args below meth c H locs 0 0 QQ (F0 m 150 ls [.int t0]) := by
    intro  t0 σ H locs ls hf hw hl
    unfold zf_Code_join_150 at hf
    obtain ⟨r23, σ22, hc24, hf⟩ := zq_cs hf
    refine zr_ci hw (zr_runS (rest := []) G hw [.int t0] (zc_Code_bit hJ hc24) (va_cwS 1 hts (zs_gS zm_130 zm_131 zm_132 zm_129) rfl rfl rfl (by decide +kernel) ⟨Nat.le_trans (by decide) hR1, Nat.le_trans (by decide) hR2⟩) rfl hl.1 (Nat.le_of_ble_eq_true rfl) d_Code_join_150 ⟨Nat.zero_le _, Nat.zero_le _⟩) (fun H locs hw => ?_)
    exact zr_iret G hw hr hlocks hf hQ d_Code_join_153
  have K136 : ∀ (t0 : Int32) (σ : zs_S) (H : Heap) (locs : List Loc) (ls : Array Slot), zf_Code_join_136 F t0 σ = some q → zs_I 0 D cA ad A s σ H locs → lv_has ls 3 [] → W p l e RR s m args below meth c H locs 0 0 QQ (F0 m 136 ls [.int t0]) := by
    intro  t0 σ H locs ls hf hw hl
    unfold zf_Code_join_136 at hf
    obtain ⟨r20, σ19, hc21, hf⟩ := zq_cs hf
    refine zr_ci hw (zr_runS (rest := []) G hw [.int t0] (zc_Code_bit hJ hc21) (va_cwS 1 hts (zs_gS zm_130 zm_131 zm_132 zm_129) rfl rfl rfl (by decide +kernel) ⟨Nat.le_trans (by decide) hR1, Nat.le_trans (by decide) hR2⟩) rfl hl.1 (Nat.le_of_ble_eq_true rfl) d_Code_join_136 ⟨Nat.zero_le _, Nat.zero_le _⟩) (fun H locs hw => ?_)
    exact zr_iret G hw hr hlocks hf hQ d_Code_join_139
  have K122 : ∀ (t0 : Int32) (σ : zs_S) (H : Heap) (locs : List Loc) (ls : Array Slot), zf_Code_join_122 F t0 σ = some q → zs_I 0 D cA ad A s σ H locs → lv_has ls 3 [] → W p l e RR s m args below meth c H locs 0 0 QQ (F0 m 122 ls [.int t0]) := by
    intro  t0 σ H locs ls hf hw hl
    unfold zf_Code_join_122 at hf
    obtain ⟨r17, σ16, hc18, hf⟩ := zq_cs hf
    refine zr_ci hw (zr_runS (rest := []) G hw [.int t0] (zc_Code_bit hJ hc18) (va_cwS 1 hts (zs_gS zm_130 zm_131 zm_132 zm_129) rfl rfl rfl (by decide +kernel) ⟨Nat.le_trans (by decide) hR1, Nat.le_trans (by decide) hR2⟩) rfl hl.1 (Nat.le_of_ble_eq_true rfl) d_Code_join_122 ⟨Nat.zero_le _, Nat.zero_le _⟩) (fun H locs hw => ?_)
    exact zr_iret G hw hr hlocks hf hQ d_Code_join_125
  have K108 : ∀ (t0 : Int32) (σ : zs_S) (H : Heap) (locs : List Loc) (ls : Array Slot), zf_Code_join_108 F t0 σ = some q → zs_I 0 D cA ad A s σ H locs → lv_has ls 3 [] → W p l e RR s m args below meth c H locs 0 0 QQ (F0 m 108 ls [.int t0]) := by
    intro  t0 σ H locs ls hf hw hl
    unfold zf_Code_join_108 at hf
    obtain ⟨r14, σ13, hc15, hf⟩ := zq_cs hf
    refine zr_ci hw (zr_runS (rest := []) G hw [.int t0] (zc_Code_bit hJ hc15) (va_cwS 1 hts (zs_gS zm_130 zm_131 zm_132 zm_129) rfl rfl rfl (by decide +kernel) ⟨Nat.le_trans (by decide) hR1, Nat.le_trans (by decide) hR2⟩) rfl hl.1 (Nat.le_of_ble_eq_true rfl) d_Code_join_108 ⟨Nat.zero_le _, Nat.zero_le _⟩) (fun H locs hw => ?_)
    exact zr_iret G hw hr hlocks hf hQ d_Code_join_111
  have K94 : ∀ (t0 : Int32) (σ : zs_S) (H : Heap) (locs : List Loc) (ls : Array Slot), zf_Code_join_94 F t0 σ = some q → zs_I 0 D cA ad A s σ H locs → lv_has ls 3 [] → W p l e RR s m args below meth c H locs 0 0 QQ (F0 m 94 ls [.int t0]) := by
    intro  t0 σ H locs ls hf hw hl
    unfold zf_Code_join_94 at hf
    obtain ⟨r11, σ10, hc12, hf⟩ := zq_cs hf
    refine zr_ci hw (zr_runS (rest := []) G hw [.int t0] (zc_Code_bit hJ hc12) (va_cwS 1 hts (zs_gS zm_130 zm_131 zm_132 zm_129) rfl rfl rfl (by decide +kernel) ⟨Nat.le_trans (by decide) hR1, Nat.le_trans (by decide) hR2⟩) rfl hl.1 (Nat.le_of_ble_eq_true rfl) d_Code_join_94 ⟨Nat.zero_le _, Nat.zero_le _⟩) (fun H locs hw => ?_)
    exact zr_iret G hw hr hlocks hf hQ d_Code_join_97
  have K93 : ∀ (σ : zs_S) (H : Heap) (locs : List Loc) (ls : Array Slot), zf_Code_join_93 F σ = some q → zs_I 0 D cA ad A s σ H locs → lv_has ls 3 [] → W p l e RR s m args below meth c H locs 0 0 QQ (F0 m 93 ls []) := by
    intro   σ H locs ls hf hw hl
    unfold zf_Code_join_93 at hf
    refine lv_iconst (v := 0) hx hb d_Code_join_93 (by decide) ?_
    exact K94 0 σ H locs ls hf hw (lv_sub hl [] rfl)
  have K77 : ∀ (t0 : Int32) (σ : zs_S) (H : Heap) (locs : List Loc) (ls : Array Slot), zf_Code_join_77 F t0 σ = some q → zs_I 0 D cA ad A s σ H locs → lv_has ls 3 [] → W p l e RR s m args below meth c H locs 0 0 QQ (F0 m 77 ls [.int t0]) := by
    intro  t0 σ H locs ls hf hw hl
    unfold zf_Code_join_77 at hf
    obtain ⟨r8, σ7, hc9, hf⟩ := zq_cs hf
    refine zr_ci hw (zr_runS (rest := []) G hw [.int t0] (zc_Code_bit hJ hc9) (va_cwS 1 hts (zs_gS zm_130 zm_131 zm_132 zm_129) rfl rfl rfl (by decide +kernel) ⟨Nat.le_trans (by decide) hR1, Nat.le_trans (by decide) hR2⟩) rfl hl.1 (Nat.le_of_ble_eq_true rfl) d_Code_join_77 ⟨Nat.zero_le _, Nat.zero_le _⟩) (fun H locs hw => ?_)
    exact zr_iret G hw hr hlocks hf hQ d_Code_join_80
  have K72 : ∀ (σ : zs_S) (H : Heap) (locs : List Loc) (ls : Array Slot), zf_Code_join_72 F σ = some q → zs_I 0 D cA ad A s σ H locs → lv_has ls 3 [] → W p l e RR s m args below meth c H locs 0 0 QQ (F0 m 72 ls []) := by
    intro   σ H locs ls hf hw hl
    unfold zf_Code_join_72 at hf
    refine lv_iconst (v := 1) hx hb d_Code_join_72 (by decide) ?_
    refine lv_goto hx hb d_Code_join_73 (tgt := 77) rfl ?_
    exact K77 1 σ H locs ls hf hw (lv_sub hl [] rfl)
  unfold zf_Code_join at hf
  refine va_gets (C := "ScheduleCheck$1") (n := "$SwitchMap$ScheduleCheck$Token") (d := "[I") (v := .ref (ad 1201)) hx hb (G.2.2.2.1 rfl).2.2.2.2.2.1 hw.2.2 hown (hts _ zm_122) (fun _ h => h) d_Code_join_0 ?_
  refine lv_aload_n hx hb d_Code_join_3 rfl (lv_at hl 0 rfl) ?_
  obtain ⟨ht4, hf⟩ := zq_gs hf
  obtain ⟨r2, σ1, hc3, hf⟩ := zq_cs hf
  refine zr_ci hw (zr_runU (rest := [.ref (ad 1201)]) (C := "ScheduleCheck$Token") G hw [] (zc_Enum_ordinal0 hJ hc3) (va_cwU 0 hts (zs_gU zm_124 zm_125 zm_126 zm_127 zm_128 zm_123) rfl rfl rfl rfl (by decide +kernel) ⟨Nat.le_trans (by decide) hR1, Nat.le_trans (by decide) hR2⟩) (zr_tok G hw ht4) rfl hl.1 (Nat.le_of_ble_eq_true rfl) d_Code_join_4 ⟨Nat.zero_le _, Nat.zero_le _⟩) (fun H locs hw => ?_)
  obtain ⟨hi5, hf⟩ := zq_gs hf
  refine va_ti (v := .int (zd_mt.getD (r2).toNatClampNeg 0)) hx hb (G.2.2.2.1 rfl).2.2.2.2.2.2.1 hw.2.2 (zq_bs hi5) rfl d_Code_join_7 ?_
  refine lv_topi (fun v6 e_v6 => ?_)
  have hf := zq_vs e_v6 hf
  by_cases hc1 : v6 = 1
  · have hf := (if_pos hc1).symm.trans hf
    refine lv_tableIn hx hb d_Code_join_8 (tgt := 64) (by rw [hc1]; decide) (by rw [hc1]; decide) (by rw [hc1]; rfl) rfl ?_
    refine lv_iload_n hx hb d_Code_join_64 rfl (lv_at hl 1 rfl) ?_
    refine lv_if_ne hx hb d_Code_join_65 (tgt := 72) rfl (fun hc => ?_) (fun hc => ?_)
    · have hf := (if_neg hc).symm.trans hf
      exact K72 σ1 H locs ls hf hw (lv_sub hl [] rfl)
    · have hf := (if_pos hc).symm.trans hf
      refine lv_iload_n hx hb d_Code_join_68 rfl (lv_at hl 2 rfl) ?_
      refine lv_if_eq hx hb d_Code_join_69 (tgt := 76) rfl (fun hc => ?_) (fun hc => ?_)
      · have hf := (if_pos hc).symm.trans hf
        refine lv_iconst (v := 0) hx hb d_Code_join_76 (by decide) ?_
        exact K77 0 σ1 H locs ls hf hw (lv_sub hl [] rfl)
      · have hf := (if_neg hc).symm.trans hf
        exact K72 σ1 H locs ls hf hw (lv_sub hl [] rfl)
  have hf := (if_neg hc1).symm.trans hf
  by_cases hc2 : v6 = 2
  · have hf := (if_pos hc2).symm.trans hf
    refine lv_tableIn hx hb d_Code_join_8 (tgt := 81) (by rw [hc2]; decide) (by rw [hc2]; decide) (by rw [hc2]; rfl) rfl ?_
    refine lv_iload_n hx hb d_Code_join_81 rfl (lv_at hl 1 rfl) ?_
    refine lv_if_eq hx hb d_Code_join_82 (tgt := 93) rfl (fun hc => ?_) (fun hc => ?_)
    · have hf := (if_pos hc).symm.trans hf
      exact K93 σ1 H locs ls hf hw (lv_sub hl [] rfl)
    · have hf := (if_neg hc).symm.trans hf
      refine lv_iload_n hx hb d_Code_join_85 rfl (lv_at hl 2 rfl) ?_
      refine lv_if_eq hx hb d_Code_join_86 (tgt := 93) rfl (fun hc => ?_) (fun hc => ?_)
      · have hf := (if_pos hc).symm.trans hf
        exact K93 σ1 H locs ls hf hw (lv_sub hl [] rfl)
      · have hf := (if_neg hc).symm.trans hf
        refine lv_iconst (v := 1) hx hb d_Code_join_89 (by decide) ?_
        refine lv_goto hx hb d_Code_join_90 (tgt := 94) rfl ?_
        exact K94 1 σ1 H locs ls hf hw (lv_sub hl [] rfl)
  have hf := (if_neg hc2).symm.trans hf
  by_cases hc3 : v6 = 3
  · have hf := (if_pos hc3).symm.trans hf
    refine lv_tableIn hx hb d_Code_join_8 (tgt := 98) (by rw [hc3]; decide) (by rw [hc3]; decide) (by rw [hc3]; rfl) rfl ?_
    refine lv_iload_n hx hb d_Code_join_98 rfl (lv_at hl 1 rfl) ?_
    refine lv_iload_n hx hb d_Code_join_99 rfl (lv_at hl 2 rfl) ?_
    refine lv_icmp_ne hx hb d_Code_join_100 (tgt := 107) rfl (fun hc => ?_) (fun hc => ?_)
    · have hf := (if_neg hc).symm.trans hf
      refine lv_iconst (v := 0) hx hb d_Code_join_107 (by decide) ?_
      exact K108 0 σ1 H locs ls hf hw (lv_sub hl [] rfl)
    · have hf := (if_pos hc).symm.trans hf
      refine lv_iconst (v := 1) hx hb d_Code_join_103 (by decide) ?_
      refine lv_goto hx hb d_Code_join_104 (tgt := 108) rfl ?_
      exact K108 1 σ1 H locs ls hf hw (lv_sub hl [] rfl)
  have hf := (if_neg hc3).symm.trans hf
  by_cases hc4 : v6 = 4
  · have hf := (if_pos hc4).symm.trans hf
    refine lv_tableIn hx hb d_Code_join_8 (tgt := 112) (by rw [hc4]; decide) (by rw [hc4]; decide) (by rw [hc4]; rfl) rfl ?_
    refine lv_iload_n hx hb d_Code_join_112 rfl (lv_at hl 1 rfl) ?_
    refine lv_iload_n hx hb d_Code_join_113 rfl (lv_at hl 2 rfl) ?_
    refine lv_icmp_eq hx hb d_Code_join_114 (tgt := 121) rfl (fun hc => ?_) (fun hc => ?_)
    · have hf := (if_pos hc).symm.trans hf
      refine lv_iconst (v := 0) hx hb d_Code_join_121 (by decide) ?_
      exact K122 0 σ1 H locs ls hf hw (lv_sub hl [] rfl)
    · have hf := (if_neg hc).symm.trans hf
      refine lv_iconst (v := 1) hx hb d_Code_join_117 (by decide) ?_
      refine lv_goto hx hb d_Code_join_118 (tgt := 122) rfl ?_
      exact K122 1 σ1 H locs ls hf hw (lv_sub hl [] rfl)
  have hf := (if_neg hc4).symm.trans hf
  by_cases hc5 : v6 = 5
  · have hf := (if_pos hc5).symm.trans hf
    refine lv_tableIn hx hb d_Code_join_8 (tgt := 126) (by rw [hc5]; decide) (by rw [hc5]; decide) (by rw [hc5]; rfl) rfl ?_
    refine lv_iload_n hx hb d_Code_join_126 rfl (lv_at hl 1 rfl) ?_
    refine lv_iload_n hx hb d_Code_join_127 rfl (lv_at hl 2 rfl) ?_
    refine lv_icmp_ge hx hb d_Code_join_128 (tgt := 135) rfl (fun hc => ?_) (fun hc => ?_)
    · have hf := (if_pos hc).symm.trans hf
      refine lv_iconst (v := 0) hx hb d_Code_join_135 (by decide) ?_
      exact K136 0 σ1 H locs ls hf hw (lv_sub hl [] rfl)
    · have hf := (if_neg hc).symm.trans hf
      refine lv_iconst (v := 1) hx hb d_Code_join_131 (by decide) ?_
      refine lv_goto hx hb d_Code_join_132 (tgt := 136) rfl ?_
      exact K136 1 σ1 H locs ls hf hw (lv_sub hl [] rfl)
  have hf := (if_neg hc5).symm.trans hf
  by_cases hc6 : v6 = 6
  · have hf := (if_pos hc6).symm.trans hf
    refine lv_tableIn hx hb d_Code_join_8 (tgt := 140) (by rw [hc6]; decide) (by rw [hc6]; decide) (by rw [hc6]; rfl) rfl ?_
    refine lv_iload_n hx hb d_Code_join_140 rfl (lv_at hl 1 rfl) ?_
    refine lv_iload_n hx hb d_Code_join_141 rfl (lv_at hl 2 rfl) ?_
    refine lv_icmp_gt hx hb d_Code_join_142 (tgt := 149) rfl (fun hc => ?_) (fun hc => ?_)
    · have hf := (if_pos hc).symm.trans hf
      refine lv_iconst (v := 0) hx hb d_Code_join_149 (by decide) ?_
      exact K150 0 σ1 H locs ls hf hw (lv_sub hl [] rfl)
    · have hf := (if_neg hc).symm.trans hf
      refine lv_iconst (v := 1) hx hb d_Code_join_145 (by decide) ?_
      refine lv_goto hx hb d_Code_join_146 (tgt := 150) rfl ?_
      exact K150 1 σ1 H locs ls hf hw (lv_sub hl [] rfl)
  have hf := (if_neg hc6).symm.trans hf
  by_cases hc7 : v6 = 7
  · have hf := (if_pos hc7).symm.trans hf
    refine lv_tableIn hx hb d_Code_join_8 (tgt := 154) (by rw [hc7]; decide) (by rw [hc7]; decide) (by rw [hc7]; rfl) rfl ?_
    refine lv_iload_n hx hb d_Code_join_154 rfl (lv_at hl 1 rfl) ?_
    refine lv_iload_n hx hb d_Code_join_155 rfl (lv_at hl 2 rfl) ?_
    refine lv_icmp_le hx hb d_Code_join_156 (tgt := 163) rfl (fun hc => ?_) (fun hc => ?_)
    · have hf := (if_pos hc).symm.trans hf
      refine lv_iconst (v := 0) hx hb d_Code_join_163 (by decide) ?_
      exact K164 0 σ1 H locs ls hf hw (lv_sub hl [] rfl)
    · have hf := (if_neg hc).symm.trans hf
      refine lv_iconst (v := 1) hx hb d_Code_join_159 (by decide) ?_
      refine lv_goto hx hb d_Code_join_160 (tgt := 164) rfl ?_
      exact K164 1 σ1 H locs ls hf hw (lv_sub hl [] rfl)
  have hf := (if_neg hc7).symm.trans hf
  by_cases hc8 : v6 = 8
  · have hf := (if_pos hc8).symm.trans hf
    refine lv_tableIn hx hb d_Code_join_8 (tgt := 168) (by rw [hc8]; decide) (by rw [hc8]; decide) (by rw [hc8]; rfl) rfl ?_
    refine lv_iload_n hx hb d_Code_join_168 rfl (lv_at hl 1 rfl) ?_
    refine lv_iload_n hx hb d_Code_join_169 rfl (lv_at hl 2 rfl) ?_
    refine lv_icmp_lt hx hb d_Code_join_170 (tgt := 177) rfl (fun hc => ?_) (fun hc => ?_)
    · have hf := (if_pos hc).symm.trans hf
      refine lv_iconst (v := 0) hx hb d_Code_join_177 (by decide) ?_
      exact K178 0 σ1 H locs ls hf hw (lv_sub hl [] rfl)
    · have hf := (if_neg hc).symm.trans hf
      refine lv_iconst (v := 1) hx hb d_Code_join_173 (by decide) ?_
      refine lv_goto hx hb d_Code_join_174 (tgt := 178) rfl ?_
      exact K178 1 σ1 H locs ls hf hw (lv_sub hl [] rfl)
  have hf := (if_neg hc8).symm.trans hf
  by_cases hc9 : v6 = 9
  · have hf := (if_pos hc9).symm.trans hf
    refine lv_tableIn hx hb d_Code_join_8 (tgt := 182) (by rw [hc9]; decide) (by rw [hc9]; decide) (by rw [hc9]; rfl) rfl ?_
    refine lv_iload_n hx hb d_Code_join_182 rfl (lv_at hl 1 rfl) ?_
    refine lv_iload_n hx hb d_Code_join_183 rfl (lv_at hl 2 rfl) ?_
    refine lv_iadd hx hb d_Code_join_184 ?_
    refine lv_i2b hx hb d_Code_join_185 rfl ?_
    exact zr_iret G hw hr hlocks hf hQ d_Code_join_186
  have hf := (if_neg hc9).symm.trans hf
  by_cases hc10 : v6 = 10
  · have hf := (if_pos hc10).symm.trans hf
    refine lv_tableIn hx hb d_Code_join_8 (tgt := 187) (by rw [hc10]; decide) (by rw [hc10]; decide) (by rw [hc10]; rfl) rfl ?_
    refine lv_iload_n hx hb d_Code_join_187 rfl (lv_at hl 1 rfl) ?_
    refine lv_iload_n hx hb d_Code_join_188 rfl (lv_at hl 2 rfl) ?_
    refine lv_isub hx hb d_Code_join_189 ?_
    refine lv_i2b hx hb d_Code_join_190 rfl ?_
    exact zr_iret G hw hr hlocks hf hQ d_Code_join_191
  have hf := (if_neg hc10).symm.trans hf
  refine lv_tableOut hx hb d_Code_join_8 (tgt := 192) (by have g1 := zq_o1 (lo := 1) (by decide) hc1; have g2 := zq_o1 (lo := 2) (by decide) hc2; have g3 := zq_o1 (lo := 3) (by decide) hc3; have g4 := zq_o1 (lo := 4) (by decide) hc4; have g5 := zq_o1 (lo := 5) (by decide) hc5; have g6 := zq_o1 (lo := 6) (by decide) hc6; have g7 := zq_o1 (lo := 7) (by decide) hc7; have g8 := zq_o1 (lo := 8) (by decide) hc8; have g9 := zq_o1 (lo := 9) (by decide) hc9; have g10 := zq_o1 (lo := 10) (by decide) hc10; omega) rfl ?_
  refine lv_iload_n hx hb d_Code_join_192 rfl (lv_at hl 1 rfl) ?_
  refine lv_iload_n hx hb d_Code_join_193 rfl (lv_at hl 2 rfl) ?_
  refine lv_imul hx hb d_Code_join_194 ?_
  refine lv_i2b hx hb d_Code_join_195 rfl ?_
  exact zr_iret G hw hr hlocks hf hQ d_Code_join_196
/-! ScheduleCheck$Code.result -/
def y_Code_result : MethodName := ⟨"ScheduleCheck$Code","result","(II[BI)I"⟩
theorem d_Code_result_0 : decode prog_3_method_3_code 0 = .ok (.iconst (-1), 1) := by decide +kernel
theorem d_Code_result_1 : decode prog_3_method_3_code 1 = .ok (.istore 5, 2) := by decide +kernel
theorem d_Code_result_3 : decode prog_3_method_3_code 3 = .ok (.iload_n 1, 1) := by decide +kernel
theorem d_Code_result_4 : decode prog_3_method_3_code 4 = .ok (.istore 6, 2) := by decide +kernel
theorem d_Code_result_6 : decode prog_3_method_3_code 6 = .ok (.iload 6, 2) := by decide +kernel
theorem d_Code_result_8 : decode prog_3_method_3_code 8 = .ok (.iload_n 2, 1) := by decide +kernel
theorem d_Code_result_9 : decode prog_3_method_3_code 9 = .ok (.if_icmp .ge 173, 3) := by decide +kernel
theorem d_Code_result_12 : decode prog_3_method_3_code 12 = .ok (.aload_n 0, 1) := by decide +kernel
theorem d_Code_result_13 : decode prog_3_method_3_code 13 = .ok (.getfield 11, 3) := by decide +kernel
theorem d_Code_result_16 : decode prog_3_method_3_code 16 = .ok (.iload 6, 2) := by decide +kernel
theorem d_Code_result_18 : decode prog_3_method_3_code 18 = .ok (.aaload, 1) := by decide +kernel
theorem d_Code_result_19 : decode prog_3_method_3_code 19 = .ok (.astore 7, 2) := by decide +kernel
theorem d_Code_result_21 : decode prog_3_method_3_code 21 = .ok (.aload 7, 2) := by decide +kernel
theorem d_Code_result_23 : decode prog_3_method_3_code 23 = .ok (.getstatic 28, 3) := by decide +kernel
theorem d_Code_result_26 : decode prog_3_method_3_code 26 = .ok (.if_acmp .ne 23, 3) := by decide +kernel
theorem d_Code_result_29 : decode prog_3_method_3_code 29 = .ok (.iinc 5 1, 3) := by decide +kernel
theorem d_Code_result_32 : decode prog_3_method_3_code 32 = .ok (.aload_n 0, 1) := by decide +kernel
theorem d_Code_result_33 : decode prog_3_method_3_code 33 = .ok (.getfield 21, 3) := by decide +kernel
theorem d_Code_result_36 : decode prog_3_method_3_code 36 = .ok (.iload 5, 2) := by decide +kernel
theorem d_Code_result_38 : decode prog_3_method_3_code 38 = .ok (.aload_n 0, 1) := by decide +kernel
theorem d_Code_result_39 : decode prog_3_method_3_code 39 = .ok (.getfield 17, 3) := by decide +kernel
theorem d_Code_result_42 : decode prog_3_method_3_code 42 = .ok (.iload 6, 2) := by decide +kernel
theorem d_Code_result_44 : decode prog_3_method_3_code 44 = .ok (.iaload, 1) := by decide +kernel
theorem d_Code_result_45 : decode prog_3_method_3_code 45 = .ok (.iastore, 1) := by decide +kernel
theorem d_Code_result_46 : decode prog_3_method_3_code 46 = .ok (.goto 130, 3) := by decide +kernel
theorem d_Code_result_49 : decode prog_3_method_3_code 49 = .ok (.aload 7, 2) := by decide +kernel
theorem d_Code_result_51 : decode prog_3_method_3_code 51 = .ok (.getstatic 32, 3) := by decide +kernel
theorem d_Code_result_54 : decode prog_3_method_3_code 54 = .ok (.if_acmp .ne 28, 3) := by decide +kernel
theorem d_Code_result_57 : decode prog_3_method_3_code 57 = .ok (.iinc 5 1, 3) := by decide +kernel
theorem d_Code_result_60 : decode prog_3_method_3_code 60 = .ok (.aload_n 0, 1) := by decide +kernel
theorem d_Code_result_61 : decode prog_3_method_3_code 61 = .ok (.getfield 21, 3) := by decide +kernel
theorem d_Code_result_64 : decode prog_3_method_3_code 64 = .ok (.iload 5, 2) := by decide +kernel
theorem d_Code_result_66 : decode prog_3_method_3_code 66 = .ok (.aload_n 3, 1) := by decide +kernel
theorem d_Code_result_67 : decode prog_3_method_3_code 67 = .ok (.iload 4, 2) := by decide +kernel
theorem d_Code_result_69 : decode prog_3_method_3_code 69 = .ok (.aload_n 0, 1) := by decide +kernel
theorem d_Code_result_70 : decode prog_3_method_3_code 70 = .ok (.getfield 17, 3) := by decide +kernel
theorem d_Code_result_73 : decode prog_3_method_3_code 73 = .ok (.iload 6, 2) := by decide +kernel
theorem d_Code_result_75 : decode prog_3_method_3_code 75 = .ok (.iaload, 1) := by decide +kernel
theorem d_Code_result_76 : decode prog_3_method_3_code 76 = .ok (.iadd, 1) := by decide +kernel
theorem d_Code_result_77 : decode prog_3_method_3_code 77 = .ok (.baload, 1) := by decide +kernel
theorem d_Code_result_78 : decode prog_3_method_3_code 78 = .ok (.iastore, 1) := by decide +kernel
theorem d_Code_result_79 : decode prog_3_method_3_code 79 = .ok (.goto 97, 3) := by decide +kernel
theorem d_Code_result_82 : decode prog_3_method_3_code 82 = .ok (.aload 7, 2) := by decide +kernel
theorem d_Code_result_84 : decode prog_3_method_3_code 84 = .ok (.getstatic 35, 3) := by decide +kernel
theorem d_Code_result_87 : decode prog_3_method_3_code 87 = .ok (.if_acmp .ne 31, 3) := by decide +kernel
theorem d_Code_result_90 : decode prog_3_method_3_code 90 = .ok (.aload_n 0, 1) := by decide +kernel
theorem d_Code_result_91 : decode prog_3_method_3_code 91 = .ok (.getfield 21, 3) := by decide +kernel
theorem d_Code_result_94 : decode prog_3_method_3_code 94 = .ok (.iload 5, 2) := by decide +kernel
theorem d_Code_result_96 : decode prog_3_method_3_code 96 = .ok (.aload_n 0, 1) := by decide +kernel
theorem d_Code_result_97 : decode prog_3_method_3_code 97 = .ok (.getfield 21, 3) := by decide +kernel
theorem d_Code_result_100 : decode prog_3_method_3_code 100 = .ok (.iload 5, 2) := by decide +kernel
theorem d_Code_result_102 : decode prog_3_method_3_code 102 = .ok (.iaload, 1) := by decide +kernel
theorem d_Code_result_103 : decode prog_3_method_3_code 103 = .ok (.ifCond .ne 7, 3) := by decide +kernel
theorem d_Code_result_106 : decode prog_3_method_3_code 106 = .ok (.iconst 1, 1) := by decide +kernel
theorem d_Code_result_107 : decode prog_3_method_3_code 107 = .ok (.goto 4, 3) := by decide +kernel
theorem d_Code_result_110 : decode prog_3_method_3_code 110 = .ok (.iconst 0, 1) := by decide +kernel
theorem d_Code_result_111 : decode prog_3_method_3_code 111 = .ok (.invokestatic 38, 3) := by decide +kernel
theorem d_Code_result_114 : decode prog_3_method_3_code 114 = .ok (.iastore, 1) := by decide +kernel
theorem d_Code_result_115 : decode prog_3_method_3_code 115 = .ok (.goto 61, 3) := by decide +kernel
theorem d_Code_result_118 : decode prog_3_method_3_code 118 = .ok (.aload 7, 2) := by decide +kernel
theorem d_Code_result_120 : decode prog_3_method_3_code 120 = .ok (.getstatic 42, 3) := by decide +kernel
theorem d_Code_result_123 : decode prog_3_method_3_code 123 = .ok (.if_acmp .ne 22, 3) := by decide +kernel
theorem d_Code_result_126 : decode prog_3_method_3_code 126 = .ok (.aload_n 0, 1) := by decide +kernel
theorem d_Code_result_127 : decode prog_3_method_3_code 127 = .ok (.getfield 21, 3) := by decide +kernel
theorem d_Code_result_130 : decode prog_3_method_3_code 130 = .ok (.iload 5, 2) := by decide +kernel
theorem d_Code_result_132 : decode prog_3_method_3_code 132 = .ok (.aload_n 0, 1) := by decide +kernel
theorem d_Code_result_133 : decode prog_3_method_3_code 133 = .ok (.getfield 21, 3) := by decide +kernel
theorem d_Code_result_136 : decode prog_3_method_3_code 136 = .ok (.iload 5, 2) := by decide +kernel
theorem d_Code_result_138 : decode prog_3_method_3_code 138 = .ok (.iaload, 1) := by decide +kernel
theorem d_Code_result_139 : decode prog_3_method_3_code 139 = .ok (.ineg, 1) := by decide +kernel
theorem d_Code_result_140 : decode prog_3_method_3_code 140 = .ok (.i2b, 1) := by decide +kernel
theorem d_Code_result_141 : decode prog_3_method_3_code 141 = .ok (.iastore, 1) := by decide +kernel
theorem d_Code_result_142 : decode prog_3_method_3_code 142 = .ok (.goto 34, 3) := by decide +kernel
theorem d_Code_result_145 : decode prog_3_method_3_code 145 = .ok (.iinc 5 (-1), 3) := by decide +kernel
theorem d_Code_result_148 : decode prog_3_method_3_code 148 = .ok (.aload_n 0, 1) := by decide +kernel
theorem d_Code_result_149 : decode prog_3_method_3_code 149 = .ok (.getfield 21, 3) := by decide +kernel
theorem d_Code_result_152 : decode prog_3_method_3_code 152 = .ok (.iload 5, 2) := by decide +kernel
theorem d_Code_result_154 : decode prog_3_method_3_code 154 = .ok (.aload 7, 2) := by decide +kernel
theorem d_Code_result_156 : decode prog_3_method_3_code 156 = .ok (.aload_n 0, 1) := by decide +kernel
theorem d_Code_result_157 : decode prog_3_method_3_code 157 = .ok (.getfield 21, 3) := by decide +kernel
theorem d_Code_result_160 : decode prog_3_method_3_code 160 = .ok (.iload 5, 2) := by decide +kernel
theorem d_Code_result_162 : decode prog_3_method_3_code 162 = .ok (.iaload, 1) := by decide +kernel
theorem d_Code_result_163 : decode prog_3_method_3_code 163 = .ok (.aload_n 0, 1) := by decide +kernel
theorem d_Code_result_164 : decode prog_3_method_3_code 164 = .ok (.getfield 21, 3) := by decide +kernel
theorem d_Code_result_167 : decode prog_3_method_3_code 167 = .ok (.iload 5, 2) := by decide +kernel
theorem d_Code_result_169 : decode prog_3_method_3_code 169 = .ok (.iconst 1, 1) := by decide +kernel
theorem d_Code_result_170 : decode prog_3_method_3_code 170 = .ok (.iadd, 1) := by decide +kernel
theorem d_Code_result_171 : decode prog_3_method_3_code 171 = .ok (.iaload, 1) := by decide +kernel
theorem d_Code_result_172 : decode prog_3_method_3_code 172 = .ok (.invokestatic 45, 3) := by decide +kernel
theorem d_Code_result_175 : decode prog_3_method_3_code 175 = .ok (.iastore, 1) := by decide +kernel
theorem d_Code_result_176 : decode prog_3_method_3_code 176 = .ok (.iinc 6 1, 3) := by decide +kernel
theorem d_Code_result_179 : decode prog_3_method_3_code 179 = .ok (.goto (-173), 3) := by decide +kernel
theorem d_Code_result_182 : decode prog_3_method_3_code 182 = .ok (.aload_n 0, 1) := by decide +kernel
theorem d_Code_result_183 : decode prog_3_method_3_code 183 = .ok (.getfield 21, 3) := by decide +kernel
theorem d_Code_result_186 : decode prog_3_method_3_code 186 = .ok (.iconst 0, 1) := by decide +kernel
theorem d_Code_result_187 : decode prog_3_method_3_code 187 = .ok (.iaload, 1) := by decide +kernel
theorem d_Code_result_188 : decode prog_3_method_3_code 188 = .ok (.ireturn, 1) := by decide +kernel
def zf_Code_result_176 (F : Nat) (k6 : Nat → Int32 → Nat → Int32 → Int32 → Int32 → zs_S → Option (Int32 × zs_S)) (x0 : Nat) (x2 : Int32) (x3 : Nat) (x4 : Int32) (x5 : Int32) (x6 : Int32) (σ : zs_S) : Option (Int32 × zs_S) :=
  zq_v (x6 + 1) fun v63 =>
  k6 x0 x2 x3 x4 x5 v63 σ
def zf_Code_result_111 (F : Nat) (k6 : Nat → Int32 → Nat → Int32 → Int32 → Int32 → zs_S → Option (Int32 × zs_S)) (x0 : Nat) (x2 : Int32) (x3 : Nat) (x4 : Int32) (x5 : Int32) (x6 : Int32) (t0 : Int32) (t1 : Int32) (t2 : Nat) (σ : zs_S) : Option (Int32 × zs_S) :=
  zq_c (zf_Code_bit F t0 σ) fun r58 σ57 =>
  zq_g (zq_k 0 t2 0) <|
  zq_g (zq_b t1 (zd_sh 0 t2).2) <|
  zq_v (zs_wi σ57 t2 ((t1).toNatClampNeg) r58) fun σ62 =>
  zf_Code_result_176 F k6 x0 x2 x3 x4 x5 x6 σ62
def zf_Code_result_6 (F : Nat)  : Nat → Nat → Int32 → Nat → Int32 → Int32 → Int32 → zs_S → Option (Int32 × zs_S)
  | 0, _, _, _, _, _, _, _ => none
  | n + 1, x0, x2, x3, x4, x5, x6, σ =>
    if x2 ≤ x6 then (
      zq_g (zq_k 0 x0 17) <|
      zq_q (zd_rf 0 x0 2) fun q2 =>
      zq_g (zq_k 0 q2 0) <|
      zq_g (zq_b 0 (zd_sh 0 q2).2) <|
      some (zs_i σ q2 (0 : Int32).toNatClampNeg, σ)
    ) else (
      zq_g (zq_k 0 x0 17) <|
      zq_q (zd_rf 0 x0 0) fun q6 =>
      zq_g (zq_k 0 q6 4) <|
      zq_g (zq_b x6 (zd_sh 0 q6).2) <|
      zq_q (zs_r σ q6 (x6).toNatClampNeg) fun q9 =>
      zq_g (decide (q9 < 1200)) <|
      if q9 = 1003 then (
        zq_v (x5 + 1) fun v49 =>
        zq_q (zd_rf 0 x0 2) fun q50 =>
        zq_q (zd_rf 0 x0 1) fun q51 =>
        zq_g (zq_k 0 q51 0) <|
        zq_g (zq_b x6 (zd_sh 0 q51).2) <|
        zq_g (zq_k 0 q50 0) <|
        zq_g (zq_b v49 (zd_sh 0 q50).2) <|
        zq_v (zs_wi σ q50 ((v49).toNatClampNeg) (zs_i σ q51 (x6).toNatClampNeg)) fun σ56 =>
        zf_Code_result_176 F (zf_Code_result_6 F n) x0 x2 x3 x4 v49 x6 σ56
      ) else (
        zq_g (decide (q9 < 1200)) <|
        if q9 = 1002 then (
          zq_v (x5 + 1) fun v39 =>
          zq_q (zd_rf 0 x0 2) fun q40 =>
          zq_q (zd_rf 0 x0 1) fun q41 =>
          zq_g (zq_k 0 q41 0) <|
          zq_g (zq_b x6 (zd_sh 0 q41).2) <|
          zq_g (zq_k 0 x3 1) <|
          zq_g (zq_b (x4 + (zs_i σ q41 (x6).toNatClampNeg)) (zd_sh 0 x3).2) <|
          zq_g (zq_k 0 q40 0) <|
          zq_g (zq_b v39 (zd_sh 0 q40).2) <|
          zq_v (zs_wi σ q40 ((v39).toNatClampNeg) (zs_i σ x3 (x4 + (zs_i σ q41 (x6).toNatClampNeg)).toNatClampNeg)) fun σ48 =>
          zf_Code_result_176 F (zf_Code_result_6 F n) x0 x2 x3 x4 v39 x6 σ48
        ) else (
          zq_g (decide (q9 < 1200)) <|
          if q9 = 1025 then (
            zq_q (zd_rf 0 x0 2) fun q35 =>
            zq_q (zd_rf 0 x0 2) fun q36 =>
            zq_g (zq_k 0 q36 0) <|
            zq_g (zq_b x5 (zd_sh 0 q36).2) <|
            if (zs_i σ q36 (x5).toNatClampNeg) = 0 then (
              zf_Code_result_111 F (zf_Code_result_6 F n) x0 x2 x3 x4 x5 x6 1 x5 q35 σ
            ) else (
              zf_Code_result_111 F (zf_Code_result_6 F n) x0 x2 x3 x4 x5 x6 0 x5 q35 σ
            )
          ) else (
            zq_g (decide (q9 < 1200)) <|
            if q9 = 1004 then (
              zq_q (zd_rf 0 x0 2) fun q28 =>
              zq_q (zd_rf 0 x0 2) fun q29 =>
              zq_g (zq_k 0 q29 0) <|
              zq_g (zq_b x5 (zd_sh 0 q29).2) <|
              zq_g (zq_k 0 q28 0) <|
              zq_g (zq_b x5 (zd_sh 0 q28).2) <|
              zq_v (zs_wi σ q28 ((x5).toNatClampNeg) (((-(zs_i σ q29 (x5).toNatClampNeg) : Int32)).toInt8.toInt32)) fun σ34 =>
              zf_Code_result_176 F (zf_Code_result_6 F n) x0 x2 x3 x4 x5 x6 σ34
            ) else (
              zq_v (x5 + (-1)) fun v14 =>
              zq_q (zd_rf 0 x0 2) fun q15 =>
              zq_q (zd_rf 0 x0 2) fun q16 =>
              zq_g (zq_k 0 q16 0) <|
              zq_g (zq_b v14 (zd_sh 0 q16).2) <|
              zq_q (zd_rf 0 x0 2) fun q19 =>
              zq_g (zq_k 0 q19 0) <|
              zq_g (zq_b (v14 + 1) (zd_sh 0 q19).2) <|
              zq_c (zf_Code_join F q9 (zs_i σ q16 (v14).toNatClampNeg) (zs_i σ q19 (v14 + 1).toNatClampNeg) σ) fun r23 σ22 =>
              zq_g (zq_k 0 q15 0) <|
              zq_g (zq_b v14 (zd_sh 0 q15).2) <|
              zq_v (zs_wi σ22 q15 ((v14).toNatClampNeg) r23) fun σ27 =>
              zf_Code_result_176 F (zf_Code_result_6 F n) x0 x2 x3 x4 v14 x6 σ27
            )
          )
        )
      )
    )
def zf_Code_result (F : Nat) (x0 : Nat) (x1 : Int32) (x2 : Int32) (x3 : Nat) (x4 : Int32) (σ : zs_S) : Option (Int32 × zs_S) :=
  zf_Code_result_6 F F x0 x2 x3 x4 ((-1)) x1 σ
set_option maxHeartbeats 4000000 in
set_option maxRecDepth 100000 in
theorem zc_Code_result {l : Launch} {D : va_G} {cA : Nat → ClassId} {ad : Nat → Nat} {A : Nat → Prop} {F : Nat} {x0 : Nat} {x1 : Int32} {x2 : Int32} {x3 : Nat} {x4 : Int32} {σ : zs_S} {q : Int32 × zs_S} (hJ : zs_J ad) (hf : zf_Code_result F x0 x1 x2 x3 x4 σ = some q) : Met l y_Code_result (.code y_Code_result prog_3_method_3_code 8 (some .int) :: zd_ww) { frames := 2, cells := 0, slots := 0, locals := 42 } (va_Pc [.ref (ad x0), .int x1, .int x2, .ref (ad x3), .int x4] (zs_U 0 D cA ad A σ)) (zs_Qi 0 D cA ad A q) 0 0 A := by
  refine Met.ofW (cc := prog_3_method_3_code) (maxL := 8) (ret := (some .int)) (by decide) rfl ?_
  intro p e s m args below meth c s₁ B hml hv
  obtain ⟨hargs, hP, hK, hD, hZ⟩ := hv
  have G : zs_G 0 p s m args c prog_3_method_3_code 8 "ScheduleCheck$Code" D cA ad A := ⟨⟨B.exec, B.bytes, hml, findClass_of_methodNamed B.named, fun w h => atoms_spec B.pre w (List.mem_cons_of_mem _ h)⟩, hK, hJ, hZ⟩
  have hw : zs_I 0 D cA ad A s σ s.heap [] := ⟨hP, hD, va_S.rf⟩
  have hx := G.1.1
  have hb := G.1.2.1
  have hown := G.1.2.2.2.1
  have hts := G.1.2.2.2.2
  have hr := B.returns
  have hlocks := B.notSynchronized
  have he : entryFrame m args 8 = F0 m 0 ((lg_sl [.ref (ad x0), .int x1, .int x2, .ref (ad x3), .int x4] ++ List.replicate (8 - (lg_sl [.ref (ad x0), .int x1, .int x2, .ref (ad x3), .int x4]).length) Slot.unset).toArray) [] := by rw [hargs]; exact lg_entry_eq m _ 8
  have hl := lv_entry [.ref (ad x0), .int x1, .int x2, .ref (ad x3), .int x4] (n := 8) (Nat.le_of_ble_eq_true rfl)
  rw [he]
  generalize (lg_sl [.ref (ad x0), .int x1, .int x2, .ref (ad x3), .int x4] ++ List.replicate (8 - (lg_sl [.ref (ad x0), .int x1, .int x2, .ref (ad x3), .int x4]).length) Slot.unset).toArray = ls at hl
  have hl : lv_has ls 8 [(0, .ref (ad x0)), (1, .int x1), (2, .int x2), (3, .ref (ad x3)), (4, .int x4)] := hl
  obtain ⟨RR, hR⟩ : ∃ z, z = (headSpec (.code y_Code_result prog_3_method_3_code 8 (some .int) :: zd_ww) { frames := 2, cells := 0, slots := 0, locals := 42 }).room := ⟨_, rfl⟩
  rw [← hR]
  obtain ⟨QQ, hQ⟩ : ∃ z, z = MQ below (zs_Qi 0 D cA ad A q) args s 0 0 A := ⟨_, rfl⟩
  rw [← hQ]
  have hR1 : 2 ≤ RR.frames := by rw [hR]; exact Nat.le_refl _
  have hR2 : 42 ≤ RR.locals := by rw [hR]; exact Nat.le_refl _
  generalize s.heap = H at hw ⊢
  generalize ([] : List Loc) = locs at hw ⊢
  have K176 : ∀ (k6 : Nat → Int32 → Nat → Int32 → Int32 → Int32 → zs_S → Option (Int32 × zs_S)) (hk6 : ∀ (x0 : Nat) (x2 : Int32) (x3 : Nat) (x4 : Int32) (x5 : Int32) (x6 : Int32) (σ : zs_S) (H : Heap) (locs : List Loc) (ls : Array Slot), k6 x0 x2 x3 x4 x5 x6 σ = some q → zs_I 0 D cA ad A s σ H locs → lv_has ls 8 [(0, .ref (ad x0)), (2, .int x2), (3, .ref (ad x3)), (4, .int x4), (5, .int x5), (6, .int x6)] → W p l e RR s m args below meth c H locs 0 0 QQ (F0 m 6 ls [])) (x0 : Nat) (x2 : Int32) (x3 : Nat) (x4 : Int32) (x5 : Int32) (x6 : Int32) (σ : zs_S) (H : Heap) (locs : List Loc) (ls : Array Slot), zf_Code_result_176 F k6 x0 x2 x3 x4 x5 x6 σ = some q → zs_I 0 D cA ad A s σ H locs → lv_has ls 8 [(0, .ref (ad x0)), (2, .int x2), (3, .ref (ad x3)), (4, .int x4), (5, .int x5), (6, .int x6)] → W p l e RR s m args below meth c H locs 0 0 QQ (F0 m 176 ls []) := by
    intro k6 hk6 x0 x2 x3 x4 x5 x6 σ H locs ls hf hw hl
    unfold zf_Code_result_176 at hf
    obtain ⟨v63, e_v63, hf⟩ := zq_ss hf
    refine lv_iinc (v := v63) hx hb d_Code_result_176 hl (k := 5) rfl (zq_inc (k := 1) (by decide) e_v63) (by decide) rfl (fun ls hl => ?_)
    have hl : lv_has ls 8 [(6, .int v63), (0, .ref (ad x0)), (2, .int x2), (3, .ref (ad x3)), (4, .int x4), (5, .int x5)] := hl
    refine lv_goto hx hb d_Code_result_179 (tgt := 6) rfl ?_
    exact hk6 x0 x2 x3 x4 x5 v63 σ H locs ls hf hw (lv_sub hl [1, 2, 3, 4, 5, 0] rfl)
  have K111 : ∀ (k6 : Nat → Int32 → Nat → Int32 → Int32 → Int32 → zs_S → Option (Int32 × zs_S)) (hk6 : ∀ (x0 : Nat) (x2 : Int32) (x3 : Nat) (x4 : Int32) (x5 : Int32) (x6 : Int32) (σ : zs_S) (H : Heap) (locs : List Loc) (ls : Array Slot), k6 x0 x2 x3 x4 x5 x6 σ = some q → zs_I 0 D cA ad A s σ H locs → lv_has ls 8 [(0, .ref (ad x0)), (2, .int x2), (3, .ref (ad x3)), (4, .int x4), (5, .int x5), (6, .int x6)] → W p l e RR s m args below meth c H locs 0 0 QQ (F0 m 6 ls [])) (x0 : Nat) (x2 : Int32) (x3 : Nat) (x4 : Int32) (x5 : Int32) (x6 : Int32) (t0 : Int32) (t1 : Int32) (t2 : Nat) (σ : zs_S) (H : Heap) (locs : List Loc) (ls : Array Slot), zf_Code_result_111 F k6 x0 x2 x3 x4 x5 x6 t0 t1 t2 σ = some q → zs_I 0 D cA ad A s σ H locs → lv_has ls 8 [(0, .ref (ad x0)), (2, .int x2), (3, .ref (ad x3)), (4, .int x4), (5, .int x5), (6, .int x6)] → W p l e RR s m args below meth c H locs 0 0 QQ (F0 m 111 ls [.int t0, .int t1, .ref (ad t2)]) := by
    intro k6 hk6 x0 x2 x3 x4 x5 x6 t0 t1 t2 σ H locs ls hf hw hl
    unfold zf_Code_result_111 at hf
    obtain ⟨r58, σ57, hc59, hf⟩ := zq_cs hf
    refine zr_ci hw (zr_runS (rest := [.int t1, .ref (ad t2)]) G hw [.int t0] (zc_Code_bit hJ hc59) (va_cwS 1 hts (zs_gS zm_130 zm_131 zm_132 zm_129) rfl rfl rfl (by decide +kernel) ⟨Nat.le_trans (by decide) hR1, Nat.le_trans (by decide) hR2⟩) rfl hl.1 (Nat.le_of_ble_eq_true rfl) d_Code_result_111 ⟨Nat.zero_le _, Nat.zero_le _⟩) (fun H locs hw => ?_)
    obtain ⟨hs60, hf⟩ := zq_gs hf
    have hs60 := zq_ks hs60
    obtain ⟨hi61, hf⟩ := zq_gs hf
    obtain ⟨σ62, e_σ62, hf⟩ := zq_ss hf
    refine zr_iast G hw t2 hs60 rfl  hi61  d_Code_result_114 (fun H locs hw => ?_)
    rw [← e_σ62] at hw
    refine lv_goto hx hb d_Code_result_115 (tgt := 176) rfl ?_
    exact K176 k6 hk6 x0 x2 x3 x4 x5 x6 σ62 H locs ls hf hw (lv_sub hl [0, 1, 2, 3, 4, 5] rfl)
  have K6 : ∀ (n : Nat) (x0 : Nat) (x2 : Int32) (x3 : Nat) (x4 : Int32) (x5 : Int32) (x6 : Int32) (σ : zs_S) (H : Heap) (locs : List Loc) (ls : Array Slot), zf_Code_result_6 F n x0 x2 x3 x4 x5 x6 σ = some q → zs_I 0 D cA ad A s σ H locs → lv_has ls 8 [(0, .ref (ad x0)), (2, .int x2), (3, .ref (ad x3)), (4, .int x4), (5, .int x5), (6, .int x6)] → W p l e RR s m args below meth c H locs 0 0 QQ (F0 m 6 ls []) := by
    intro  n
    induction n with
    | zero => intro x0 x2 x3 x4 x5 x6 σ H locs ls hf hw hl; exact nomatch (show (none : Option (Int32 × zs_S)) = some q from hf)
    | succ n ih =>
      intro x0 x2 x3 x4 x5 x6 σ H locs ls hf hw hl
      rw [zf_Code_result_6] at hf
      refine lv_iload hx hb d_Code_result_6 (lv_at hl 5 rfl) ?_
      refine lv_iload_n hx hb d_Code_result_8 rfl (lv_at hl 1 rfl) ?_
      refine lv_icmp_ge hx hb d_Code_result_9 (tgt := 182) rfl (fun hc => ?_) (fun hc => ?_)
      · have hf := (if_pos hc).symm.trans hf
        refine lv_aload_n hx hb d_Code_result_182 rfl (lv_at hl 0 rfl) ?_
        obtain ⟨hs1, hf⟩ := zq_gs hf
        have hs1 := zq_ks hs1
        obtain ⟨q2, e_q2, h_q2, hf⟩ := zq_qs hf
        refine zr_get (ci := 7) G hw x0 2 zi_7 hs1 rfl rfl (by decide) zm_133 (fun _ h => h) (v := .ref (ad q2)) (zs_fs rfl e_q2 h_q2) d_Code_result_183 ?_
        refine lv_iconst (v := 0) hx hb d_Code_result_186 (by decide) ?_
        obtain ⟨hs3, hf⟩ := zq_gs hf
        have hs3 := zq_ks hs3
        obtain ⟨hi4, hf⟩ := zq_gs hf
        refine zr_iald G hw q2 hs3 rfl hi4 d_Code_result_187 ?_
        exact zr_iret G hw hr hlocks hf hQ d_Code_result_188
      · have hf := (if_neg hc).symm.trans hf
        refine lv_aload_n hx hb d_Code_result_12 rfl (lv_at hl 0 rfl) ?_
        obtain ⟨hs5, hf⟩ := zq_gs hf
        have hs5 := zq_ks hs5
        obtain ⟨q6, e_q6, h_q6, hf⟩ := zq_qs hf
        refine zr_get (ci := 7) G hw x0 0 zi_7 hs5 rfl rfl (by decide) zm_120 (fun _ h => h) (v := .ref (ad q6)) (zs_fs rfl e_q6 h_q6) d_Code_result_13 ?_
        refine lv_iload hx hb d_Code_result_16 (lv_at hl 5 rfl) ?_
        obtain ⟨hs7, hf⟩ := zq_gs hf
        have hs7 := zq_ks hs7
        obtain ⟨hi8, hf⟩ := zq_gs hf
        obtain ⟨q9, e_q9, h_q9, hf⟩ := zq_qs hf
        refine zr_aald G hw q6 hs7 rfl hi8 (by rw [← e_q9]; exact h_q9) d_Code_result_18 ?_
        rw [← e_q9]
        refine lv_astore hx hb d_Code_result_19 hl (by decide) rfl (fun ls hl => ?_)
        have hl : lv_has ls 8 [(7, .ref (ad q9)), (0, .ref (ad x0)), (2, .int x2), (3, .ref (ad x3)), (4, .int x4), (5, .int x5), (6, .int x6)] := hl
        refine lv_aload hx hb d_Code_result_21 (lv_at hl 0 rfl) ?_
        refine va_gets (C := "ScheduleCheck$Token") (n := "NUMBER") (d := "LScheduleCheck$Token;") (v := .ref (ad 1003)) hx hb ((G.2.2.2.1 rfl).1.1 3 (by decide)).1 hw.2.2 hown (hts _ zm_134) (fun _ h => h) d_Code_result_23 ?_
        obtain ⟨hm10, hf⟩ := zq_gs hf
        refine zr_ane G (of_decide_eq_true hm10) (by decide) d_Code_result_26 (tgt := 49) rfl (fun hc => ?_) (fun hc => ?_)
        · have hf := (if_neg hc).symm.trans hf
          refine lv_aload hx hb d_Code_result_49 (lv_at hl 0 rfl) ?_
          refine va_gets (C := "ScheduleCheck$Token") (n := "NAME") (d := "LScheduleCheck$Token;") (v := .ref (ad 1002)) hx hb ((G.2.2.2.1 rfl).1.1 2 (by decide)).1 hw.2.2 hown (hts _ zm_135) (fun _ h => h) d_Code_result_51 ?_
          obtain ⟨hm11, hf⟩ := zq_gs hf
          refine zr_ane G (of_decide_eq_true hm11) (by decide) d_Code_result_54 (tgt := 82) rfl (fun hc => ?_) (fun hc => ?_)
          · have hf := (if_neg hc).symm.trans hf
            refine lv_aload hx hb d_Code_result_82 (lv_at hl 0 rfl) ?_
            refine va_gets (C := "ScheduleCheck$Token") (n := "NOT") (d := "LScheduleCheck$Token;") (v := .ref (ad 1025)) hx hb ((G.2.2.2.1 rfl).1.1 25 (by decide)).1 hw.2.2 hown (hts _ zm_136) (fun _ h => h) d_Code_result_84 ?_
            obtain ⟨hm12, hf⟩ := zq_gs hf
            refine zr_ane G (of_decide_eq_true hm12) (by decide) d_Code_result_87 (tgt := 118) rfl (fun hc => ?_) (fun hc => ?_)
            · have hf := (if_neg hc).symm.trans hf
              refine lv_aload hx hb d_Code_result_118 (lv_at hl 0 rfl) ?_
              refine va_gets (C := "ScheduleCheck$Token") (n := "NEGATE") (d := "LScheduleCheck$Token;") (v := .ref (ad 1004)) hx hb ((G.2.2.2.1 rfl).1.1 4 (by decide)).1 hw.2.2 hown (hts _ zm_137) (fun _ h => h) d_Code_result_120 ?_
              obtain ⟨hm13, hf⟩ := zq_gs hf
              refine zr_ane G (of_decide_eq_true hm13) (by decide) d_Code_result_123 (tgt := 145) rfl (fun hc => ?_) (fun hc => ?_)
              · have hf := (if_neg hc).symm.trans hf
                obtain ⟨v14, e_v14, hf⟩ := zq_ss hf
                refine lv_iinc (v := v14) hx hb d_Code_result_145 hl (k := 5) rfl (zq_inc (k := (-1)) (by decide) e_v14) (by decide) rfl (fun ls hl => ?_)
                have hl : lv_has ls 8 [(5, .int v14), (7, .ref (ad q9)), (0, .ref (ad x0)), (2, .int x2), (3, .ref (ad x3)), (4, .int x4), (6, .int x6)] := hl
                refine lv_aload_n hx hb d_Code_result_148 rfl (lv_at hl 2 rfl) ?_
                obtain ⟨q15, e_q15, h_q15, hf⟩ := zq_qs hf
                refine zr_get (ci := 7) G hw x0 2 zi_7 hs5 rfl rfl (by decide) zm_133 (fun _ h => h) (v := .ref (ad q15)) (zs_fs rfl e_q15 h_q15) d_Code_result_149 ?_
                refine lv_iload hx hb d_Code_result_152 (lv_at hl 0 rfl) ?_
                refine lv_aload hx hb d_Code_result_154 (lv_at hl 1 rfl) ?_
                refine lv_aload_n hx hb d_Code_result_156 rfl (lv_at hl 2 rfl) ?_
                obtain ⟨q16, e_q16, h_q16, hf⟩ := zq_qs hf
                refine zr_get (ci := 7) G hw x0 2 zi_7 hs5 rfl rfl (by decide) zm_133 (fun _ h => h) (v := .ref (ad q16)) (zs_fs rfl e_q16 h_q16) d_Code_result_157 ?_
                refine lv_iload hx hb d_Code_result_160 (lv_at hl 0 rfl) ?_
                obtain ⟨hs17, hf⟩ := zq_gs hf
                have hs17 := zq_ks hs17
                obtain ⟨hi18, hf⟩ := zq_gs hf
                refine zr_iald G hw q16 hs17 rfl hi18 d_Code_result_162 ?_
                refine lv_aload_n hx hb d_Code_result_163 rfl (lv_at hl 2 rfl) ?_
                obtain ⟨q19, e_q19, h_q19, hf⟩ := zq_qs hf
                refine zr_get (ci := 7) G hw x0 2 zi_7 hs5 rfl rfl (by decide) zm_133 (fun _ h => h) (v := .ref (ad q19)) (zs_fs rfl e_q19 h_q19) d_Code_result_164 ?_
                refine lv_iload hx hb d_Code_result_167 (lv_at hl 0 rfl) ?_
                refine lv_iconst (v := 1) hx hb d_Code_result_169 (by decide) ?_
                refine lv_iadd hx hb d_Code_result_170 ?_
                obtain ⟨hs20, hf⟩ := zq_gs hf
                have hs20 := zq_ks hs20
                obtain ⟨hi21, hf⟩ := zq_gs hf
                refine zr_iald G hw q19 hs20 rfl hi21 d_Code_result_171 ?_
                obtain ⟨r23, σ22, hc24, hf⟩ := zq_cs hf
                refine zr_ci hw (zr_runS (rest := [.int v14, .ref (ad q15)]) G hw [.ref (ad q9), .int (zs_i σ q16 (v14).toNatClampNeg), .int (zs_i σ q19 (v14 + 1).toNatClampNeg)] (zc_Code_join hJ hc24) (va_cwS 3 hts (zs_gS zm_139 zm_140 zm_132 zm_138) rfl rfl rfl (by decide +kernel) ⟨Nat.le_trans (by decide) hR1, Nat.le_trans (by decide) hR2⟩) rfl hl.1 (Nat.le_of_ble_eq_true rfl) d_Code_result_172 ⟨Nat.zero_le _, Nat.zero_le _⟩) (fun H locs hw => ?_)
                obtain ⟨hs25, hf⟩ := zq_gs hf
                have hs25 := zq_ks hs25
                obtain ⟨hi26, hf⟩ := zq_gs hf
                obtain ⟨σ27, e_σ27, hf⟩ := zq_ss hf
                refine zr_iast G hw q15 hs25 rfl  hi26  d_Code_result_175 (fun H locs hw => ?_)
                rw [← e_σ27] at hw
                exact K176 (zf_Code_result_6 F n) ih x0 x2 x3 x4 v14 x6 σ27 H locs ls hf hw (lv_sub hl [2, 3, 4, 5, 0, 6] rfl)
              · have hf := (if_pos hc).symm.trans hf
                refine lv_aload_n hx hb d_Code_result_126 rfl (lv_at hl 1 rfl) ?_
                obtain ⟨q28, e_q28, h_q28, hf⟩ := zq_qs hf
                refine zr_get (ci := 7) G hw x0 2 zi_7 hs5 rfl rfl (by decide) zm_133 (fun _ h => h) (v := .ref (ad q28)) (zs_fs rfl e_q28 h_q28) d_Code_result_127 ?_
                refine lv_iload hx hb d_Code_result_130 (lv_at hl 5 rfl) ?_
                refine lv_aload_n hx hb d_Code_result_132 rfl (lv_at hl 1 rfl) ?_
                obtain ⟨q29, e_q29, h_q29, hf⟩ := zq_qs hf
                refine zr_get (ci := 7) G hw x0 2 zi_7 hs5 rfl rfl (by decide) zm_133 (fun _ h => h) (v := .ref (ad q29)) (zs_fs rfl e_q29 h_q29) d_Code_result_133 ?_
                refine lv_iload hx hb d_Code_result_136 (lv_at hl 5 rfl) ?_
                obtain ⟨hs30, hf⟩ := zq_gs hf
                have hs30 := zq_ks hs30
                obtain ⟨hi31, hf⟩ := zq_gs hf
                refine zr_iald G hw q29 hs30 rfl hi31 d_Code_result_138 ?_
                refine lv_ineg hx hb d_Code_result_139 ?_
                refine lv_i2b hx hb d_Code_result_140 rfl ?_
                obtain ⟨hs32, hf⟩ := zq_gs hf
                have hs32 := zq_ks hs32
                obtain ⟨hi33, hf⟩ := zq_gs hf
                obtain ⟨σ34, e_σ34, hf⟩ := zq_ss hf
                refine zr_iast G hw q28 hs32 rfl  hi33  d_Code_result_141 (fun H locs hw => ?_)
                rw [← e_σ34] at hw
                refine lv_goto hx hb d_Code_result_142 (tgt := 176) rfl ?_
                exact K176 (zf_Code_result_6 F n) ih x0 x2 x3 x4 x5 x6 σ34 H locs ls hf hw (lv_sub hl [1, 2, 3, 4, 5, 6] rfl)
            · have hf := (if_pos hc).symm.trans hf
              refine lv_aload_n hx hb d_Code_result_90 rfl (lv_at hl 1 rfl) ?_
              obtain ⟨q35, e_q35, h_q35, hf⟩ := zq_qs hf
              refine zr_get (ci := 7) G hw x0 2 zi_7 hs5 rfl rfl (by decide) zm_133 (fun _ h => h) (v := .ref (ad q35)) (zs_fs rfl e_q35 h_q35) d_Code_result_91 ?_
              refine lv_iload hx hb d_Code_result_94 (lv_at hl 5 rfl) ?_
              refine lv_aload_n hx hb d_Code_result_96 rfl (lv_at hl 1 rfl) ?_
              obtain ⟨q36, e_q36, h_q36, hf⟩ := zq_qs hf
              refine zr_get (ci := 7) G hw x0 2 zi_7 hs5 rfl rfl (by decide) zm_133 (fun _ h => h) (v := .ref (ad q36)) (zs_fs rfl e_q36 h_q36) d_Code_result_97 ?_
              refine lv_iload hx hb d_Code_result_100 (lv_at hl 5 rfl) ?_
              obtain ⟨hs37, hf⟩ := zq_gs hf
              have hs37 := zq_ks hs37
              obtain ⟨hi38, hf⟩ := zq_gs hf
              refine zr_iald G hw q36 hs37 rfl hi38 d_Code_result_102 ?_
              refine lv_if_ne hx hb d_Code_result_103 (tgt := 110) rfl (fun hc => ?_) (fun hc => ?_)
              · have hf := (if_neg hc).symm.trans hf
                refine lv_iconst (v := 0) hx hb d_Code_result_110 (by decide) ?_
                exact K111 (zf_Code_result_6 F n) ih x0 x2 x3 x4 x5 x6 0 x5 q35 σ H locs ls hf hw (lv_sub hl [1, 2, 3, 4, 5, 6] rfl)
              · have hf := (if_pos hc).symm.trans hf
                refine lv_iconst (v := 1) hx hb d_Code_result_106 (by decide) ?_
                refine lv_goto hx hb d_Code_result_107 (tgt := 111) rfl ?_
                exact K111 (zf_Code_result_6 F n) ih x0 x2 x3 x4 x5 x6 1 x5 q35 σ H locs ls hf hw (lv_sub hl [1, 2, 3, 4, 5, 6] rfl)
          · have hf := (if_pos hc).symm.trans hf
            obtain ⟨v39, e_v39, hf⟩ := zq_ss hf
            refine lv_iinc (v := v39) hx hb d_Code_result_57 hl (k := 5) rfl (zq_inc (k := 1) (by decide) e_v39) (by decide) rfl (fun ls hl => ?_)
            have hl : lv_has ls 8 [(5, .int v39), (7, .ref (ad q9)), (0, .ref (ad x0)), (2, .int x2), (3, .ref (ad x3)), (4, .int x4), (6, .int x6)] := hl
            refine lv_aload_n hx hb d_Code_result_60 rfl (lv_at hl 2 rfl) ?_
            obtain ⟨q40, e_q40, h_q40, hf⟩ := zq_qs hf
            refine zr_get (ci := 7) G hw x0 2 zi_7 hs5 rfl rfl (by decide) zm_133 (fun _ h => h) (v := .ref (ad q40)) (zs_fs rfl e_q40 h_q40) d_Code_result_61 ?_
            refine lv_iload hx hb d_Code_result_64 (lv_at hl 0 rfl) ?_
            refine lv_aload_n hx hb d_Code_result_66 rfl (lv_at hl 4 rfl) ?_
            refine lv_iload hx hb d_Code_result_67 (lv_at hl 5 rfl) ?_
            refine lv_aload_n hx hb d_Code_result_69 rfl (lv_at hl 2 rfl) ?_
            obtain ⟨q41, e_q41, h_q41, hf⟩ := zq_qs hf
            refine zr_get (ci := 7) G hw x0 1 zi_7 hs5 rfl rfl (by decide) zm_121 (fun _ h => h) (v := .ref (ad q41)) (zs_fs rfl e_q41 h_q41) d_Code_result_70 ?_
            refine lv_iload hx hb d_Code_result_73 (lv_at hl 6 rfl) ?_
            obtain ⟨hs42, hf⟩ := zq_gs hf
            have hs42 := zq_ks hs42
            obtain ⟨hi43, hf⟩ := zq_gs hf
            refine zr_iald G hw q41 hs42 rfl hi43 d_Code_result_75 ?_
            refine lv_iadd hx hb d_Code_result_76 ?_
            obtain ⟨hs44, hf⟩ := zq_gs hf
            have hs44 := zq_ks hs44
            obtain ⟨hi45, hf⟩ := zq_gs hf
            refine zr_bald G hw x3 hs44 rfl hi45 d_Code_result_77 ?_
            obtain ⟨hs46, hf⟩ := zq_gs hf
            have hs46 := zq_ks hs46
            obtain ⟨hi47, hf⟩ := zq_gs hf
            obtain ⟨σ48, e_σ48, hf⟩ := zq_ss hf
            refine zr_iast G hw q40 hs46 rfl  hi47  d_Code_result_78 (fun H locs hw => ?_)
            rw [← e_σ48] at hw
            refine lv_goto hx hb d_Code_result_79 (tgt := 176) rfl ?_
            exact K176 (zf_Code_result_6 F n) ih x0 x2 x3 x4 v39 x6 σ48 H locs ls hf hw (lv_sub hl [2, 3, 4, 5, 0, 6] rfl)
        · have hf := (if_pos hc).symm.trans hf
          obtain ⟨v49, e_v49, hf⟩ := zq_ss hf
          refine lv_iinc (v := v49) hx hb d_Code_result_29 hl (k := 5) rfl (zq_inc (k := 1) (by decide) e_v49) (by decide) rfl (fun ls hl => ?_)
          have hl : lv_has ls 8 [(5, .int v49), (7, .ref (ad q9)), (0, .ref (ad x0)), (2, .int x2), (3, .ref (ad x3)), (4, .int x4), (6, .int x6)] := hl
          refine lv_aload_n hx hb d_Code_result_32 rfl (lv_at hl 2 rfl) ?_
          obtain ⟨q50, e_q50, h_q50, hf⟩ := zq_qs hf
          refine zr_get (ci := 7) G hw x0 2 zi_7 hs5 rfl rfl (by decide) zm_133 (fun _ h => h) (v := .ref (ad q50)) (zs_fs rfl e_q50 h_q50) d_Code_result_33 ?_
          refine lv_iload hx hb d_Code_result_36 (lv_at hl 0 rfl) ?_
          refine lv_aload_n hx hb d_Code_result_38 rfl (lv_at hl 2 rfl) ?_
          obtain ⟨q51, e_q51, h_q51, hf⟩ := zq_qs hf
          refine zr_get (ci := 7) G hw x0 1 zi_7 hs5 rfl rfl (by decide) zm_121 (fun _ h => h) (v := .ref (ad q51)) (zs_fs rfl e_q51 h_q51) d_Code_result_39 ?_
          refine lv_iload hx hb d_Code_result_42 (lv_at hl 6 rfl) ?_
          obtain ⟨hs52, hf⟩ := zq_gs hf
          have hs52 := zq_ks hs52
          obtain ⟨hi53, hf⟩ := zq_gs hf
          refine zr_iald G hw q51 hs52 rfl hi53 d_Code_result_44 ?_
          obtain ⟨hs54, hf⟩ := zq_gs hf
          have hs54 := zq_ks hs54
          obtain ⟨hi55, hf⟩ := zq_gs hf
          obtain ⟨σ56, e_σ56, hf⟩ := zq_ss hf
          refine zr_iast G hw q50 hs54 rfl  hi55  d_Code_result_45 (fun H locs hw => ?_)
          rw [← e_σ56] at hw
          refine lv_goto hx hb d_Code_result_46 (tgt := 176) rfl ?_
          exact K176 (zf_Code_result_6 F n) ih x0 x2 x3 x4 v49 x6 σ56 H locs ls hf hw (lv_sub hl [2, 3, 4, 5, 0, 6] rfl)
  unfold zf_Code_result at hf
  refine lv_iconst (v := (-1)) hx hb d_Code_result_0 (by decide) ?_
  refine lv_istore hx hb d_Code_result_1 hl (by decide) rfl (fun ls hl => ?_)
  have hl : lv_has ls 8 [(5, .int ((-1))), (0, .ref (ad x0)), (1, .int x1), (2, .int x2), (3, .ref (ad x3)), (4, .int x4)] := hl
  refine lv_iload_n hx hb d_Code_result_3 rfl (lv_at hl 2 rfl) ?_
  refine lv_istore hx hb d_Code_result_4 hl (by decide) rfl (fun ls hl => ?_)
  have hl : lv_has ls 8 [(6, .int x1), (5, .int ((-1))), (0, .ref (ad x0)), (1, .int x1), (2, .int x2), (3, .ref (ad x3)), (4, .int x4)] := hl
  exact K6 F x0 x2 x3 x4 ((-1)) x1 σ H locs ls hf hw (lv_sub hl [2, 4, 5, 6, 1, 0] rfl)
